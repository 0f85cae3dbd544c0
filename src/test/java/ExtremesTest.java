import java.util.Arrays;
import java.util.Random;

/**
 * Every call with all combinations of numbers that lie at and beside the document's bounds, in an empty land, in one
 * with some of everything and in a full one: no call throws, and each answers as LandModel does.
 */
public final class ExtremesTest {
    private static final int MOST_CALLS = 512;
    private static final int LEAST = Integer.MIN_VALUE;
    private static final int GREATEST = Integer.MAX_VALUE;
    private static final int[] MANY = {LEAST, LEAST + 1, -1000000001, -1001, -1000, -3, -2, -1, 0, 1, 2, 3, 4, 5, 6, 7, 8, 9, 10, 11, 12, 14, 15,
        16, 23, 24, 31, 32, 99, 100, 200, 201, 365, 400, 401, 600, 601, 999, 1000, 1001, 1011, 1012, 2000, 3000, 4000, 5000, 5001, 6000,
        6001, 7000, 9999, 10000, 10001, 100000, 100001, 200200, 200201, GREATEST - 1, GREATEST};
    private static final int[] SOME = {LEAST, -2, -1, 0, 1, 2, 3, 9, 10, 11, 12, 99, 100, 600, 601, 9999, 10000, 100001, GREATEST};
    private static final int[] FEW = {LEAST, -2, -1, 0, 1, 2, 3, 9, 10, 12, 24, GREATEST};

    private static final Due due = new Due();
    private static final Calls LAND = new Calls(PartedLand.class);
    private static final Calls MODEL = new Calls(LandModel.class);

    private ExtremesTest() {
    }

    public static void main(String[] args) {
        for (Run land : Lands.all(due, "extremes")) {
            for (String call : LAND.names()) {
                allNumbers(land, call);
            }
            beyondThe512thCall(land.again());
        }
        due.end();
    }

    private static void allNumbers(Run land, String call) {
        int places = LAND.places(call);
        int[] values = places <= 2 ? MANY : places == 3 ? SOME : FEW;
        int combinations = 1;
        for (int i = 0; i < places; i++) {
            combinations *= values.length;
        }
        int left = 0;
        PartedLand x = null;
        LandModel model = null;
        for (int which = 0; which < combinations && due.wrongOnes() < 20; which++) {
            if (left == 0) {
                x = land.again();
                model = land.asModel();
                left = MOST_CALLS - land.size();
            }
            left--;
            int[] arguments = arguments(which, places, values);
            int got = LAND.ask(x, call, arguments);
            due.is(call + Arrays.toString(arguments), got, MODEL.ask(model, call, arguments));
            due.holds("a finding or above LOW: " + got, got > Due.LOW || got >= Due.KIND && got <= Due.BEYOND);
        }
    }

    private static int[] arguments(int which, int places, int[] values) {
        int[] arguments = new int[places];
        int left = which;
        for (int i = 0; i < places; i++) {
            arguments[i] = values[left % values.length];
            left /= values.length;
        }
        return arguments;
    }

    /** What later calls answer is free, but they must not throw. */
    private static void beyondThe512thCall(PartedLand x) {
        Random random = new Random(1);
        for (int i = 0; i < 20000; i++) {
            String call = LAND.names()[random.nextInt(LAND.names().length)];
            int[] arguments = new int[LAND.places(call)];
            for (int k = 0; k < arguments.length; k++) {
                arguments[k] = random.nextInt(3) == 0 ? MANY[random.nextInt(MANY.length)] : random.nextInt(12);
            }
            LAND.ask(x, call, arguments);
        }
    }
}
