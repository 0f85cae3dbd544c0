/** The boundary cases of the promises 41 to 44, and of what Terms say of FINDINGS. */
public final class ToldBoundaryTest {
    private static final int BEYOND = Due.BEYOND;
    private static final int NONE = Due.NONE;
    private static final int STATE = Due.STATE;
    private static final int FULL = Due.FULL;
    private static final int KIND = Due.KIND;
    private static final int LEAST = Integer.MIN_VALUE;
    private static final int GREATEST = Integer.MAX_VALUE;

    private static final Due due = new Due();

    private ToldBoundaryTest() {
    }

    public static void main(String[] args) {
        promise41SixteenWait();
        promise41AnyNumber();
        promise42NoneWait();
        promise42FewerAndMoreThanPersons();
        promise42TheFirstThatIsNot();
        promise42NobodysIsMinusOne();
        promise42SixteenPersons();
        promise43What();
        promise43LeastAndMost();
        promise43Enclaves();
        promise43Nobodys();
        promise44KIs1To5();
        promise44EachFinding();
        promise44OnlyAnswersCount();
        promise44TheNumbersOfFindings();
        due.end();
    }

    // ---- promise 41: tell

    private static void promise41SixteenWait() {
        Run x = new Run(due, "promise 41");
        for (int i = 1; i <= 16; i++) {
            x.due("count(11)", i - 1).due("tell(0)", i);
        }
        x.refused("tell(0)", FULL).refused("tell(1)", FULL).due("count(11)", 16).due("check()", 1).due("count(11)", 0).due("tell(5)", 1);
        x.due("found(4)", 2);
        Lands.full(due, "promise 41").refusedWith("tell(?)", FULL, LEAST, -1, 0, 1, GREATEST).due("count(11)", 16);
        // What is refused doesn't take the place of one that waits.
        Run y = Lands.two(due, "promise 41, what waits stays").times(16, "person(0, 0)").times(16, "tell(0)").refused("tell(1)", FULL);
        y.due("check()", 0);
    }

    private static void promise41AnyNumber() {
        Run x = new Run(due, "promise 41, any number");
        int i = 0;
        for (int v : new int[] {LEAST, -1000000006, BEYOND, NONE, -1000000000, -1, 0, 1, 2, GREATEST}) {
            i++;
            x.due("tell(" + v + ")", i);
        }
        x.due("found(1)", 0).due("found(2)", 0);
    }

    // ---- promise 42: check

    private static void promise42NoneWait() {
        new Run(due, "promise 42, empty land").due("check()", 0).due("check()", 0);
        Lands.two(due, "promise 42, none wait").make("person(0, 0)").due("check()", 0).due("count(11)", 0);
    }

    private static void promise42FewerAndMoreThanPersons() {
        Run x = Lands.two(due, "promise 42, how many").make("tell(-1)").due("check()", 1).make("person(0, 0)", "person(0, 1)");
        x.make("tell(0)").due("check()", 0).make("tell(0)", "tell(1)").due("check()", 0);
        x.make("tell(0)", "tell(1)", "tell(-1)").due("check()", 3).make("tell(0)", "tell(1)", "tell(0)", "tell(0)").due("check()", 3);
        x.due("check()", 0);
    }

    private static void promise42TheFirstThatIsNot() {
        Run x = Lands.two(due, "promise 42, the first").make("person(0, 0)", "person(0, 1)", "person(0, 0)");
        x.make("tell(1)", "tell(0)", "tell(1)").due("check()", 1).due("count(11)", 0);
        x.make("tell(0)", "tell(0)", "tell(1)").due("check()", 2).make("tell(0)", "tell(1)", "tell(1)").due("check()", 3);
        x.make("tell(0)", "tell(1)", "tell(0)").due("check()", 0).make("tell(2)").due("check()", 1).make("tell(" + LEAST + ")").due("check()", 1);
        x.make("tell(" + GREATEST + ")").due("check()", 1).make("tell(-1)").due("check()", 1).due("found(1)", 0);
        // By THE LAW, when it is asked, not when the number was told.
        x.make("tell(0)", "move(0, 1)").due("check()", 1).make("tell(1)").due("check()", 0).make("tell(0)").enact("pb;").due("check()", 0);
        x.make("tell(0)").propose(0, "ph;", 0).due("check()", 0);
    }

    private static void promise42NobodysIsMinusOne() {
        Run x = Lands.two(due, "promise 42, nobody's").make("person(0, 0)", "person(0, 0)", "work(1, 0, 1)").enact("pw;");
        x.make("tell(-1)", "tell(1)").due("check()", 0).make("tell(0)").due("check()", 1).make("tell(1)").due("check()", 1);
        x.make("tell(" + NONE + ")").due("check()", 1).make("tell(-2)").due("check()", 1).make("tell(-1)", "tell(-1)").due("check()", 2);
        x.due("found(2)", 0);
    }

    private static void promise42SixteenPersons() {
        Run x = Lands.two(due, "promise 42, 16 PERSONS").times(15, "person(0, 0)").make("person(0, 1)").times(15, "tell(0)").make("tell(1)");
        x.due("check()", 0).times(16, "tell(0)").due("check()", 16).due("count(11)", 0);
        // PERSON 4 is the first whose HOME is on SIDE 1.
        Lands.full(due, "promise 42").due("check()", 5).due("count(11)", 0);
    }

    // ---- promise 43: count

    private static void promise43What() {
        for (Run x : Lands.all(due, "promise 43")) {
            x.refusedBeside("count(?)", -1, 14);
            for (int what = 0; what <= 13; what++) {
                x.changesNothing("count(" + what + ")");
            }
        }
    }

    private static void counts(Run x, int... want) {
        for (int what = 0; what < want.length; what++) {
            x.due("count(" + what + ")", want[what]);
        }
    }

    private static void promise43LeastAndMost() {
        counts(new Run(due, "promise 43, empty land"), 0, 0, 0, 0, 0, 0, 0, 0, 0, 0, 0, 0, 0, 0);
        counts(Lands.some(due, "promise 43"), 3, 3, 2, 3, 7, 1, 2, 2, 3, 2, 20, 2);
        counts(Lands.full(due, "promise 43"), 12, 30, 8, 16, 24, 12, 10, 10, 9, 50, 0, 16);
        counts(Lands.full(due, "promise 43, DAY 400").make("day(400)"), 12, 30, 8, 16, 24, 12, 10, 10, 9, 50, 400, 16);
    }

    private static void promise43Enclaves() {
        Run x = new Run(due, "promise 43, ENCLAVES").due("count(12)", 0).make("parish(90, 0)").due("count(12)", 0).make("parish(10, 0)");
        x.due("count(12)", 1).make("seat(1, 1)").due("count(12)", 2).make("seat(0, 1)").due("count(12)", 1).make("seat(1, 0)").due("count(12)", 0);
        Run y = new Run(due, "promise 43, all are ENCLAVES").times(12, "parish(50, 0)").due("count(12)", 11).make("settle(0, 1)").due("count(12)", 11);
        y.make("seat(1, 1)").due("count(12)", 12);
    }

    private static void promise43Nobodys() {
        Run x = Lands.two(due, "promise 43, nobody's").due("count(13)", 0).times(16, "person(0, 0)").due("count(13)", 0).enact("pc;");
        x.due("count(13)", 16).make("choose(15, 0)").due("count(13)", 15).make("choose(0, 1)").due("count(13)", 14);
        x.make("choose(0, -1)").due("count(13)", 15).enact("").due("count(13)", 0).due("found(2)", 0);
        // By THE LAW, not by what one HOUSE holds to.
        x.propose(0, "pw;", 0).due("count(13)", 0).propose(1, "pw;", 1).due("count(13)", 16).propose(0, "", 0).due("count(13)", 16);
        x.propose(0, "pw;", 1).propose(1, "", 0).due("count(13)", 16).propose(0, "", 1).due("count(13)", 0);
    }

    // ---- promise 44: found

    private static void promise44KIs1To5() {
        for (Run x : Lands.all(due, "promise 44")) {
            x.refusedBeside("found(?)", 0, 6).refusedWith("found(?)", BEYOND, -1, -5, -1000000000, BEYOND);
            x.changesNothing("found(1)", "found(2)", "found(3)", "found(4)", "found(5)").due("found(1)", 8);
        }
        Run x = new Run(due, "promise 44, counted too").due("found(1)", 0).refused("found(0)", BEYOND).due("found(1)", 1);
        x.refused("found(6)", BEYOND).due("found(1)", 2).due("found(1)", 2);
    }

    private static void promise44EachFinding() {
        Run x = Lands.two(due, "promise 44, each by itself").make("thing(0, 1)").times(16, "tell(0)");
        x.refused("side(2)", BEYOND);
        for (int i = 0; i < 2; i++) {
            x.refused("goes(0)", NONE);
        }
        for (int i = 0; i < 3; i++) {
            x.refused("differ()", STATE);
        }
        for (int i = 0; i < 4; i++) {
            x.refused("tell(0)", FULL);
        }
        for (int i = 0; i < 5; i++) {
            x.refused("copy(0)", KIND);
        }
        for (int k = 1; k <= 5; k++) {
            x.due("found(" + k + ")", k);
        }
    }

    private static void promise44OnlyAnswersCount() {
        // What a call asks inside is no act: nobody's PERSONS, GROUPS, places and FAULTS are not counted.
        Run x = Lands.two(due, "promise 44, only answers").make("person(0, 0)", "thing(4000, 1)", "open(0, 0, 1, 0)").enact("pw;");
        x.make("tell(0)").due("check()", 1).due("count(13)", 1).due("count(12)", 1).due("court(0)", 0).propose(0, "x", -10).due("home(0)", BEYOND);
        x.due("best(-1)", 0).due("best(-2)", 0).due("rest(0)", 0).due("found(2)", 0).due("found(3)", 0).due("found(1)", 1);
        x.due("choose(0, -1)", -1).due("choose(0, 0)", -1).due("found(1)", 1);
    }

    private static void promise44TheNumbersOfFindings() {
        due.is("LOW - 1", BEYOND, -1000000001);
        due.is("LOW - 2", NONE, -1000000002);
        due.is("LOW - 3", STATE, -1000000003);
        due.is("LOW - 4", FULL, -1000000004);
        due.is("LOW - 5", KIND, -1000000005);
        Run x = Lands.two(due, "promise 44, the numbers").make("thing(0, 1)").due("side(2)", -1000000001).due("goes(0)", -1000000002);
        x.due("differ()", -1000000003).times(10, "parish(0, 0)").due("parish(0, 0)", -1000000004).due("copy(0)", -1000000005);
    }
}
