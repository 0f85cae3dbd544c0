import java.util.ArrayList;
import java.util.Arrays;
import java.util.List;
import java.util.Random;

/** Random runs of calls, always the same ones, on PartedLand and on LandModel: both must answer alike. */
public final class ModelTest {
    private static final int RUNS = 1200;
    private static final int MOST_CALLS = 512;
    private static final String[] ROWS = {"pc;", "pw;", "pcw;", "pwch;", "phb;", "pbw;", "k0;", "k40;", "k200;", "s00;", "s33;",
        "s50;", "s66;", "s99;", "dl;", "ds;", "c0;", "c5;", "c9;", "u00;", "u24;"};
    private static final String SIGNS = "pkscdulhbw;0123459;x";

    private static final Due due = new Due();

    private final Calls land = new Calls(PartedLand.class);
    private final Calls model = new Calls(LandModel.class);
    private final List<String> log = new ArrayList<>();
    private Random random = new Random(0);
    private PartedLand one = new PartedLand();
    private LandModel other = new LandModel();

    private ModelTest() {
    }

    public static void main(String[] args) {
        ModelTest test = new ModelTest();
        for (int run = 0; run < RUNS && due.wrongOnes() < 5; run++) {
            due.begin("run " + run);
            test.run(run);
        }
        due.end();
    }

    private void run(int seed) {
        random = new Random(seed);
        one = new PartedLand();
        other = new LandModel();
        log.clear();
        grow();
        while (log.size() < MOST_CALLS) {
            step();
        }
    }

    /** Without this, most calls of a run would find nothing to work on. */
    private void grow() {
        int parishes = 2 + random.nextInt(10);
        for (int i = 0; i < parishes; i++) {
            ask("parish", random.nextBoolean() ? 40 + random.nextInt(20) : random.nextInt(100), random.nextInt(100));
        }
        int edges = random.nextInt(22);
        for (int i = 0; i < edges; i++) {
            ask("edge", random.nextInt(parishes), random.nextInt(parishes), 1 + random.nextInt(4), random.nextInt(4) == 0 ? 0 : 1);
        }
        for (int i = 0; i < 3; i++) {
            ask("person", random.nextInt(parishes), random.nextInt(parishes));
        }
        int things = random.nextInt(3) == 0 ? 18 : random.nextInt(8);
        for (int i = 0; i < things; i++) {
            ask("thing", fittingThings("thing", new int[0]));
        }
        if (random.nextInt(3) == 0) {
            ask("day", 300 + random.nextInt(65));
        }
    }

    private void step() {
        int kind = random.nextInt(80);
        if (kind < 2) {
            proposeBoth();
        } else if (kind < 4) {
            proposeAnything();
        } else if (kind == 4) {
            tellAll();
        } else {
            String call = land.names()[random.nextInt(land.names().length)];
            if (call.equals("day") && random.nextInt(3) != 0) {
                return;
            }
            ask(call, argumentsOf(call));
        }
    }

    private void proposeBoth() {
        StringBuilder text = new StringBuilder();
        int rows = random.nextInt(5);
        for (int i = 0; i < rows; i++) {
            text.append(ROWS[random.nextInt(ROWS.length)]);
        }
        feed(text.toString());
        ask("propose", 0);
        feed(text.toString());
        ask("propose", 1);
    }

    private void proposeAnything() {
        StringBuilder text = new StringBuilder();
        int rows = random.nextInt(5);
        for (int i = 0; i < rows; i++) {
            text.append(ROWS[random.nextInt(ROWS.length)]);
        }
        int signs = random.nextInt(4);
        for (int i = 0; i < signs; i++) {
            text.insert(random.nextInt(text.length() + 1), SIGNS.charAt(random.nextInt(SIGNS.length())));
        }
        if (text.length() > 0 && random.nextInt(3) == 0) {
            text.setLength(random.nextInt(text.length()));
        }
        feed(text.toString());
        ask("propose", random.nextInt(2));
    }

    private void feed(String text) {
        for (int at = 0; at < text.length(); at += 4) {
            int n = Math.min(4, text.length() - at);
            int word = 0;
            for (int i = 0; i < n; i++) {
                word = (word << 8) | text.charAt(at + i);
            }
            ask("feed", word, n);
        }
    }

    private void tellAll() {
        int persons = other.count(3);
        for (int i = 0; i < persons; i++) {
            int owner = random.nextInt(20) == 0 ? random.nextInt(2) : other.whose(i, 2);
            // The model alone was asked: PartedLand must have told as many findings.
            if (owner == Due.NONE) {
                one.whose(i, 2);
                owner = -1;
            }
            ask("tell", owner);
        }
        ask("check");
    }

    private int[] argumentsOf(String call) {
        int[] arguments = new int[land.places(call)];
        for (int i = 0; i < arguments.length; i++) {
            arguments[i] = anyNumber();
        }
        if (random.nextInt(12) == 0) {
            return arguments;
        }
        return fitting(call, arguments);
    }

    private int anyNumber() {
        switch (random.nextInt(12)) {
            case 0:
                return random.nextInt();
            case 1:
                return random.nextBoolean() ? Integer.MAX_VALUE : Integer.MIN_VALUE;
            case 2:
                return random.nextInt(12000) - 1000;
            case 3:
            case 4:
                return random.nextInt(420);
            default:
                return random.nextInt(15) - 2;
        }
    }

    private int upTo(int most) {
        return random.nextInt(most + 1);
    }

    private int numbered(int what) {
        int most = other.count(what);
        return most == 0 || random.nextInt(25) == 0 ? most : random.nextInt(most);
    }

    private int[] fitting(String name, int[] otherwise) {
        switch (name) {
            case "parish":
                return new int[] {upTo(99), upTo(99)};
            case "edge":
                return new int[] {numbered(0), numbered(0), 1 + upTo(8), upTo(1)};
            case "peg":
                return new int[] {30 + upTo(40), Math.min(100, 8 * other.count(2) + upTo(15))};
            case "settle":
                return new int[] {numbered(0), upTo(1)};
            case "seat":
                return new int[] {upTo(1), numbered(0)};
            case "side":
            case "enclave":
                return new int[] {numbered(0)};
            case "far":
                return new int[] {numbered(0), numbered(0), upTo(1)};
            case "person":
                return new int[] {numbered(0), numbered(0)};
            case "move":
                return new int[] {numbered(3), numbered(0)};
            case "work":
                return new int[] {numbered(3), upTo(3), random.nextBoolean() ? upTo(3) : upTo(600)};
            case "choose":
                return new int[] {numbered(3), upTo(2) - 1};
            case "whose":
                return new int[] {numbered(3), upTo(2)};
            case "pension":
                return new int[] {numbered(3), upTo(100000), upTo(1)};
            case "feed":
                return new int[] {anyNumber(), 1 + upTo(3)};
            case "propose":
                return new int[] {upTo(1)};
            case "law":
                return new int[] {upTo(6)};
            default:
                return fittingThings(name, otherwise);
        }
    }

    private int[] fittingThings(String name, int[] otherwise) {
        switch (name) {
            case "thing":
                int kind = random.nextInt(3) == 0 ? upTo(6) : 3 + upTo(3);
                int place = kind == 1 || kind == 2 ? numbered(0) : kind == 5 ? numbered(4) : 0;
                return new int[] {1000 * kind + place, random.nextBoolean() ? upTo(20) : upTo(10000)};
            case "as":
                return new int[] {numbered(4), upTo(6)};
            case "tie":
                return new int[] {numbered(4), numbered(4)};
            case "part":
                return new int[] {numbered(4), 1 + upTo(20)};
            case "goes":
            case "copy":
                return new int[] {numbered(4)};
            case "rest":
                return new int[] {upTo(2)};
            case "hoard":
                return new int[] {numbered(3), upTo(9999)};
            case "week":
                return new int[] {1000 * (90 + upTo(20)) + 90 + upTo(20), upTo(9999), upTo(9)};
            case "stamp":
                return new int[] {upTo(1), upTo(2)};
            case "open":
                return new int[] {numbered(0), numbered(3), 1 + upTo(8), numbered(4) - (random.nextInt(4) == 0 ? 1 : 0)};
            default:
                return fittingRest(name, otherwise);
        }
    }

    private int[] fittingRest(String name, int[] otherwise) {
        switch (name) {
            case "wagon":
                return new int[] {upTo(1), numbered(0)};
            case "send":
                return new int[] {numbered(6), numbered(0)};
            case "where":
                return new int[] {numbered(6), other.count(10) + upTo(random.nextBoolean() ? 12 : 400)};
            case "home":
                return new int[] {numbered(6)};
            case "day":
                return new int[] {other.count(10) + upTo(6)};
            case "court":
            case "waits":
                return new int[] {numbered(7)};
            case "task":
                // Few DAYS are rare: the model tries all ORDERS that fit into the year.
                return new int[] {20 + upTo(180)};
            case "ahead":
                return new int[] {numbered(8), numbered(8)};
            case "best":
                return new int[] {upTo(9) - 2};
            case "count":
                return new int[] {upTo(13)};
            case "found":
                return new int[] {1 + upTo(4)};
            default:
                return otherwise;
        }
    }

    private void ask(String name, int... arguments) {
        if (log.size() >= MOST_CALLS) {
            return;
        }
        String call = name + Arrays.toString(arguments);
        log.add(call);
        int got = land.ask(one, name, arguments);
        int want = model.ask(other, name, arguments);
        due.is(call, got, want);
        if (got != want) {
            System.out.println(String.join(" ", log));
        }
    }
}
