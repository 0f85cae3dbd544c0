/** The boundary cases of the promises 1 to 9, and of what Terms say of the land. */
public final class LandBoundaryTest {
    private static final int BEYOND = Due.BEYOND;
    private static final int NONE = Due.NONE;
    private static final int STATE = Due.STATE;
    private static final int FULL = Due.FULL;
    private static final int LEAST = Integer.MIN_VALUE;
    private static final int GREATEST = Integer.MAX_VALUE;

    private static final Due due = new Due();

    private LandBoundaryTest() {
    }

    public static void main(String[] args) {
        promise1NothingIsThere();
        promise1EveryCallInTheEmptyLand();
        promise1AtFirst();
        promise2PlacesAre0To99();
        promise2TwelveAtMost();
        promise3ParishesOfAnEdge();
        promise3DaysAre1To9();
        promise3RailIs0Or1();
        promise3SeveralOfTwo();
        promise3ThirtyAtMost();
        promise4PlacesAre0To99();
        promise4YMustRise();
        promise4EightAtMost();
        promise5ParishAndSide();
        promise5OnlyOnTheLine();
        promise6SideAndParish();
        promise7NoSuchParish();
        promise7WithoutPegs();
        promise7LineAtBothEndsOfTheLand();
        promise7BelowTheFirstAboveTheLast();
        promise7QuotientsAreCut();
        promise7PegsToldLater();
        promise8NoSuchParish();
        promise8TheSeatItself();
        promise8SeatOfTheOtherSide();
        promise8WaysOfItsOwnSide();
        promise8WayOverAllParishes();
        promise9ParishesAndRail();
        promise9OfOneParish();
        promise9NoWay();
        promise9ShortestAndLongest();
        due.end();
    }

    // ---- promise 1: a new object

    private static void promise1NothingIsThere() {
        Run x = new Run(due, "promise 1");
        for (int k = 1; k <= 5; k++) {
            x.due("found(" + k + ")", 0);
        }
        for (int what = 0; what <= 13; what++) {
            x.due("count(" + what + ")", 0);
        }
        x.due("rest(0)", 0).due("rest(1)", 0).due("rest(2)", 0);
        x.due("best(-1)", 0).due("best(-2)", 0);
        for (int what = 0; what <= 2; what++) {
            x.due("stamp(0, " + what + ")", 0).due("stamp(1, " + what + ")", 0);
        }
        x.due("check()", 0).due("day(0)", 0);
        x.due("found(1)", 0);
    }

    private static void promise1EveryCallInTheEmptyLand() {
        Run x = new Run(due, "promise 1, every call");
        String[] beyond = {"edge(0, 1, 1, 0)", "settle(0, 0)", "seat(0, 0)", "seat(1, 0)", "side(0)", "enclave(0)", "far(0, 0, 0)",
            "person(0, 0)", "move(0, 0)", "work(0, 0, 0)", "choose(0, 0)", "whose(0, 0)", "whose(0, 1)", "whose(0, 2)",
            "pension(0, 0, 0)", "thing(1000, 0)", "thing(2000, 0)", "thing(5000, 0)", "as(0, 0)", "tie(0, 1)", "part(0, 1)",
            "goes(0)", "hoard(0, 0)", "wagon(0, 0)", "send(0, 0)", "where(0, 0)", "home(0)", "open(0, 0, 1, -1)", "copy(0)",
            "court(0)", "waits(0)", "ahead(0, 1)"};
        for (String call : beyond) {
            x.refused(call, BEYOND);
        }
        x.refused("differ()", STATE).refused("best(0)", NONE);
        x.due("found(1)", beyond.length).due("found(2)", 1).due("found(3)", 1).due("found(4)", 0).due("found(5)", 0);
        String[] fine = {"peg(0, 0)", "feed(0, 1)", "thing(0, 0)", "thing(3000, 0)", "thing(4000, 0)", "thing(6000, 0)",
            "week(1001, 0, 0)", "task(1)", "tell(0)", "parish(0, 0)"};
        for (String call : fine) {
            new Run(due, "promise 1, first of all").make(call);
        }
        new Run(due, "promise 1").due("propose(0)", 1).due("propose(1)", 1);
        new Run(due, "promise 1").make("tell(0)").due("check()", 1);
    }

    private static void promise1AtFirst() {
        Run x = new Run(due, "promise 1, THE LAW");
        x.due("law(0)", 400).due("law(1)", 50).due("law(2)", 0).due("law(3)", 9).due("law(4)", 12).due("law(5)", 2).due("law(6)", 0);
        Run y = Lands.two(due, "promise 1, SEATS and SETTLED");
        y.due("settle(0, 1)", 0).due("settle(1, 1)", 0).due("seat(0, 1)", 0).due("seat(1, 1)", 0);
        y.make("person(0, 1)").due("choose(0, 1)", -1).due("hoard(0, 1)", 0).due("pension(0, 2, 0)", 1);
        y.due("whose(0, 0)", STATE).due("whose(0, 1)", STATE).due("whose(0, 2)", 1);
    }

    // ---- promise 2: parish

    private static void promise2PlacesAre0To99() {
        Run x = new Run(due, "promise 2");
        x.due("parish(0, 0)", 0).due("parish(99, 0)", 1).due("parish(0, 99)", 2).due("parish(99, 99)", 3);
        x.due("parish(99, 99)", 4);
        for (Run y : Lands.all(due, "promise 2")) {
            y.refusedBeside("parish(?, 0)", -1, 100).refusedBeside("parish(0, ?)", -1, 100);
            y.refusedBeside("parish(?, 99)", -1, 100).refusedBeside("parish(99, ?)", -1, 100);
        }
        new Run(due, "promise 2, behind refused ones").refused("parish(100, 100)", BEYOND).due("parish(1, 1)", 0).due("count(0)", 1);
    }

    private static void promise2TwelveAtMost() {
        Run x = new Run(due, "promise 2, 12 at most");
        for (int i = 0; i < 12; i++) {
            x.due("count(0)", i).due("parish(" + i + ", 5)", i);
        }
        x.refused("parish(0, 0)", FULL).refused("parish(99, 99)", FULL).due("count(0)", 12);
        x.refused("parish(100, 0)", BEYOND).refused("parish(0, -1)", BEYOND);
        x.due("side(11)", 0).refused("side(12)", BEYOND);
        x.due("found(1)", 3).due("found(4)", 2);
    }

    // ---- promise 3: edge

    private static void promise3ParishesOfAnEdge() {
        Run x = new Run(due, "promise 3").make("parish(1, 1)");
        x.refusedBeside("edge(0, ?, 1, 0)", -1, 1).refusedBeside("edge(?, 0, 1, 0)", -1, 1).refused("edge(0, 0, 1, 0)", BEYOND);
        x.make("parish(2, 2)").due("edge(0, 1, 1, 0)", 1).due("edge(1, 0, 1, 0)", 2);
        x.refused("edge(1, 1, 1, 0)", BEYOND);
        Run some = Lands.some(due, "promise 3");
        some.refusedBeside("edge(?, 1, 1, 1)", -1, 3).refusedBeside("edge(1, ?, 1, 1)", -1, 3).refused("edge(2, 2, 1, 1)", BEYOND);
        Run full = Lands.full(due, "promise 3");
        full.refusedBeside("edge(?, 1, 1, 1)", -1, 12).refusedBeside("edge(1, ?, 1, 1)", -1, 12).refused("edge(11, 11, 1, 1)", BEYOND);
        Run last = new Run(due, "promise 3, the last PARISH").times(12, "parish(1, 1)");
        last.due("edge(0, 11, 1, 0)", 1).due("edge(11, 10, 1, 0)", 2);
        last.refused("edge(0, 12, 1, 0)", BEYOND).refused("edge(12, 0, 1, 0)", BEYOND);
    }

    private static void promise3DaysAre1To9() {
        Run x = Lands.two(due, "promise 3, days");
        x.due("edge(0, 1, 9, 1)", 1).due("far(0, 1, 1)", 9).due("edge(0, 1, 1, 1)", 2).due("far(0, 1, 1)", 1);
        x.refusedBeside("edge(0, 1, ?, 1)", 0, 10).refused("edge(0, 1, -1, 1)", BEYOND);
        Lands.full(due, "promise 3, days").refusedBeside("edge(0, 1, ?, 0)", 0, 10);
    }

    private static void promise3RailIs0Or1() {
        Run x = Lands.two(due, "promise 3, rail");
        x.due("edge(0, 1, 2, 0)", 1).due("far(0, 1, 0)", 2).due("far(0, 1, 1)", NONE);
        x.refusedBeside("edge(0, 1, 1, ?)", -1, 2);
        x.due("edge(0, 1, 3, 1)", 2).due("far(0, 1, 0)", 2).due("far(0, 1, 1)", 3);
        Lands.full(due, "promise 3, rail").refusedBeside("edge(0, 1, 1, ?)", -1, 2);
    }

    private static void promise3SeveralOfTwo() {
        Run x = Lands.two(due, "promise 3, several of two");
        x.due("edge(0, 1, 5, 0)", 1).due("edge(0, 1, 5, 0)", 2).due("edge(1, 0, 5, 0)", 3).due("count(1)", 3);
        x.due("edge(1, 0, 4, 0)", 4).due("far(0, 1, 0)", 4).due("far(1, 0, 0)", 4).due("edge(0, 1, 6, 0)", 5).due("far(1, 0, 0)", 4);
    }

    private static void promise3ThirtyAtMost() {
        Run x = Lands.two(due, "promise 3, 30 at most");
        for (int i = 1; i <= 29; i++) {
            x.due("edge(0, 1, 2, 0)", i);
        }
        x.due("far(0, 1, 1)", NONE).due("edge(0, 1, 2, 1)", 30).due("far(0, 1, 1)", 2).due("count(1)", 30);
        x.refused("edge(0, 1, 1, 1)", FULL).refused("edge(1, 0, 9, 0)", FULL);
        x.refused("edge(0, 2, 1, 1)", BEYOND).refused("edge(0, 0, 1, 1)", BEYOND).refused("edge(0, 1, 0, 1)", BEYOND);
        x.refused("edge(0, 1, 10, 1)", BEYOND).refused("edge(0, 1, 1, 2)", BEYOND);
        x.due("count(1)", 30).due("far(0, 1, 0)", 2);
    }

    // ---- promise 4: peg

    private static void promise4PlacesAre0To99() {
        new Run(due, "promise 4").due("peg(0, 0)", 1).due("peg(99, 99)", 2).refusedBeside("peg(50, ?)", 99, 100);
        new Run(due, "promise 4").due("peg(99, 0)", 1).due("peg(0, 99)", 2);
        new Run(due, "promise 4").refusedBeside("peg(?, 0)", -1, 100).refusedBeside("peg(0, ?)", -1, 100).due("count(2)", 0);
        for (Run x : Lands.all(due, "promise 4")) {
            x.refusedBeside("peg(?, 99)", -1, 100).refusedBeside("peg(99, ?)", -1, 100);
        }
    }

    private static void promise4YMustRise() {
        Run x = new Run(due, "promise 4, y above that of the latest one");
        x.due("peg(50, 40)", 1).refused("peg(50, 40)", BEYOND).refused("peg(50, 39)", BEYOND).refused("peg(50, 0)", BEYOND);
        x.due("peg(50, 41)", 2).refused("peg(50, 41)", BEYOND).due("peg(50, 99)", 3);
        x.refused("peg(50, 99)", BEYOND).refused("peg(50, 98)", BEYOND).refused("peg(50, 100)", BEYOND).due("count(2)", 3);
        Run y = new Run(due, "promise 4, a refused y isn't the latest");
        y.refused("peg(100, 50)", BEYOND).due("peg(0, 10)", 1).refused("peg(-1, 60)", BEYOND).due("peg(0, 11)", 2);
    }

    private static void promise4EightAtMost() {
        Run x = new Run(due, "promise 4, 8 at most");
        for (int i = 1; i <= 8; i++) {
            x.due("peg(" + i + ", " + i + ")", i);
        }
        x.refused("peg(0, 9)", FULL).refused("peg(99, 99)", FULL);
        x.refused("peg(0, 8)", BEYOND).refused("peg(0, 0)", BEYOND).refused("peg(100, 9)", BEYOND).refused("peg(0, 100)", BEYOND);
        x.due("count(2)", 8).due("found(4)", 2).due("found(1)", 4);
        // The eighth is the last one of THE LINE.
        x.make("parish(8, 99)", "parish(7, 99)", "parish(9, 99)").due("side(1)", 0).due("side(2)", 1).due("side(0)", 0);
    }

    // ---- promise 5: settle

    private static void promise5ParishAndSide() {
        Run x = Lands.two(due, "promise 5");
        x.due("settle(0, 0)", 0).due("settle(0, 1)", 0).due("settle(0, 1)", 1).due("settle(0, 0)", 1).due("settle(0, 1)", 0);
        x.due("settle(1, 1)", 0);
        x.refusedBeside("settle(0, ?)", -1, 2).refusedBeside("settle(?, 0)", -1, 2).due("settle(0, 0)", 1).due("settle(1, 0)", 1);
        Lands.some(due, "promise 5").refusedBeside("settle(2, ?)", -1, 2).refusedBeside("settle(?, 0)", -1, 3).due("settle(2, 0)", 1);
        Run full = Lands.full(due, "promise 5").refusedBeside("settle(11, ?)", -1, 2).refusedBeside("settle(?, 1)", -1, 12);
        full.due("settle(11, 1)", 0).due("settle(11, 1)", 1);
    }

    private static void promise5OnlyOnTheLine() {
        Run x = new Run(due, "promise 5, if its x is the same").make("parish(49, 0)", "parish(50, 0)", "parish(51, 0)");
        x.due("side(0)", 0).due("side(1)", 0).due("side(2)", 1);
        x.make("settle(0, 1)", "settle(1, 1)", "settle(2, 1)").due("side(0)", 0).due("side(1)", 1).due("side(2)", 1);
        x.make("settle(0, 0)", "settle(1, 0)", "settle(2, 0)").due("side(0)", 0).due("side(1)", 0).due("side(2)", 1);
    }

    // ---- promise 6: seat

    private static void promise6SideAndParish() {
        Run x = new Run(due, "promise 6");
        x.refused("seat(0, 0)", BEYOND).refused("seat(1, 0)", BEYOND).make("parish(0, 0)").due("seat(0, 0)", 0).due("seat(1, 0)", 0);
        x.refusedBeside("seat(0, ?)", -1, 1).refusedBeside("seat(?, 0)", -1, 2);
        x.times(11, "parish(1, 1)").due("seat(0, 11)", 0).due("seat(1, 10)", 0).due("seat(0, 0)", 11).due("seat(1, 11)", 10);
        x.refusedBeside("seat(0, ?)", -1, 12).refusedBeside("seat(1, ?)", -1, 12).refusedBeside("seat(?, 11)", -1, 2);
        x.due("seat(0, 1)", 0).due("seat(1, 1)", 11);
        Lands.some(due, "promise 6").refusedBeside("seat(1, ?)", -1, 3).refusedBeside("seat(?, 2)", -1, 2).due("seat(1, 0)", 1);
    }

    // ---- promise 7: side

    private static void promise7NoSuchParish() {
        new Run(due, "promise 7, empty land").refusedBeside("side(?)", -1, 0);
        Lands.some(due, "promise 7").refusedBeside("side(?)", -1, 3).changesNothing("side(0)", "side(1)", "side(2)");
        Lands.full(due, "promise 7").refusedBeside("side(?)", -1, 12).due("side(11)", 1);
    }

    private static void promise7WithoutPegs() {
        for (int y : new int[] {0, 50, 99}) {
            Run x = new Run(due, "promise 7, without PEGS");
            x.make("parish(0, " + y + ")", "parish(49, " + y + ")", "parish(50, " + y + ")", "parish(51, " + y + ")", "parish(99, " + y + ")");
            x.due("side(0)", 0).due("side(1)", 0).due("side(2)", 0).due("side(3)", 1).due("side(4)", 1);
            x.make("settle(2, 1)").due("side(2)", 1);
        }
    }

    private static void promise7LineAtBothEndsOfTheLand() {
        Run x = new Run(due, "promise 7, THE LINE at x 0").make("peg(0, 50)", "parish(0, 50)", "parish(1, 50)", "settle(1, 0)");
        x.due("side(0)", 0).due("side(1)", 1).make("settle(0, 1)").due("side(0)", 1);
        Run y = new Run(due, "promise 7, THE LINE at x 99").make("peg(99, 50)", "parish(99, 50)", "parish(98, 50)", "settle(1, 1)");
        y.due("side(0)", 0).due("side(1)", 0).make("settle(0, 1)").due("side(0)", 1);
    }

    /** THE LINE has that x at that y: one less is of SIDE 0, one more of SIDE 1, the same as it was SETTLED. */
    private static void lineIs(String pegs, int y, int x) {
        Run run = new Run(due, "promise 7, y " + y + " at " + pegs).make(pegs.split("; "));
        int next = 0;
        if (x > 0) {
            run.make("parish(" + (x - 1) + ", " + y + ")", "settle(" + next + ", 1)").due("side(" + next + ")", 0);
            next++;
        }
        if (x < 99) {
            run.make("parish(" + (x + 1) + ", " + y + ")").due("side(" + next + ")", 1);
            next++;
        }
        run.make("parish(" + x + ", " + y + ")").due("side(" + next + ")", 0).make("settle(" + next + ", 1)").due("side(" + next + ")", 1);
    }

    private static void promise7BelowTheFirstAboveTheLast() {
        for (int y : new int[] {0, 29, 30, 31, 99}) {
            lineIs("peg(7, 30)", y, 7);
        }
        String slanted = "peg(20, 30); peg(80, 40)";
        int[][] points = {{0, 20}, {29, 20}, {30, 20}, {31, 26}, {35, 50}, {39, 74}, {40, 80}, {41, 80}, {99, 80}};
        for (int[] point : points) {
            lineIs(slanted, point[0], point[1]);
        }
        String whole = "peg(0, 0); peg(99, 99)";
        for (int y : new int[] {0, 1, 50, 98, 99}) {
            lineIs(whole, y, y);
        }
        // PEGS one y apart.
        lineIs("peg(10, 10); peg(90, 11)", 10, 10);
        lineIs("peg(10, 10); peg(90, 11)", 11, 90);
        lineIs("peg(10, 10); peg(90, 11); peg(20, 12)", 11, 90);
        lineIs("peg(10, 10); peg(90, 11); peg(20, 12)", 12, 20);
        String three = "peg(10, 10); peg(30, 20); peg(20, 30)";
        int[][] more = {{9, 10}, {10, 10}, {11, 12}, {19, 28}, {20, 30}, {21, 29}, {29, 21}, {30, 20}, {31, 20}};
        for (int[] point : more) {
            lineIs(three, point[0], point[1]);
        }
        String eight = "peg(1, 10); peg(2, 20); peg(3, 30); peg(4, 40); peg(5, 50); peg(6, 60); peg(70, 70); peg(80, 80)";
        int[][] last = {{60, 6}, {61, 12}, {69, 63}, {70, 70}, {71, 71}, {79, 79}, {80, 80}, {81, 80}};
        for (int[] point : last) {
            lineIs(eight, point[0], point[1]);
        }
    }

    private static void promise7QuotientsAreCut() {
        // Rising by 10 in 3: 3.33 and 6.67 are cut. Falling: -3.33 and -6.67 are cut toward 0.
        lineIs("peg(50, 10); peg(60, 13)", 11, 53);
        lineIs("peg(50, 10); peg(60, 13)", 12, 56);
        lineIs("peg(60, 10); peg(50, 13)", 11, 57);
        lineIs("peg(60, 10); peg(50, 13)", 12, 54);
        lineIs("peg(0, 0); peg(1, 99)", 98, 0);
        lineIs("peg(0, 0); peg(1, 99)", 99, 1);
        lineIs("peg(1, 0); peg(0, 99)", 98, 1);
        lineIs("peg(1, 0); peg(0, 99)", 99, 0);
    }

    private static void promise7PegsToldLater() {
        Run x = new Run(due, "promise 7, PEGS told later").make("parish(50, 50)", "settle(0, 1)").due("side(0)", 1);
        x.make("peg(51, 10)").due("side(0)", 0).make("peg(50, 20)").due("side(0)", 1).make("settle(0, 0)").due("side(0)", 0);
        x.make("peg(48, 80)").due("side(0)", 1).make("peg(99, 81)").due("side(0)", 1);
        // Each PARISH at its own y.
        Run y = new Run(due, "promise 7, each at its own y").make("parish(50, 0)", "parish(50, 99)", "peg(20, 0)", "peg(80, 99)");
        y.due("side(0)", 1).due("side(1)", 0);
    }

    // ---- promise 8: enclave

    private static void promise8NoSuchParish() {
        new Run(due, "promise 8, empty land").refusedBeside("enclave(?)", -1, 0).due("count(12)", 0);
        Lands.some(due, "promise 8").refusedBeside("enclave(?)", -1, 3).changesNothing("enclave(0)", "enclave(1)", "enclave(2)");
        Lands.full(due, "promise 8").refusedBeside("enclave(?)", -1, 12).make("enclave(11)");
    }

    private static void promise8TheSeatItself() {
        Run x = new Run(due, "promise 8, the SEAT itself").make("parish(10, 0)").due("enclave(0)", 0).due("count(12)", 0);
        x.make("parish(10, 1)").due("enclave(1)", 1).due("count(12)", 1).make("seat(0, 1)").due("enclave(1)", 0).due("enclave(0)", 1);
        x.make("edge(0, 1, 9, 0)").due("enclave(0)", 0).due("count(12)", 0);
    }

    private static void promise8SeatOfTheOtherSide() {
        Run x = new Run(due, "promise 8, SEAT of the other SIDE").make("parish(90, 0)", "parish(91, 0)", "edge(0, 1, 1, 1)");
        x.due("enclave(0)", 0).due("enclave(1)", 0).make("parish(10, 0)", "edge(0, 2, 1, 1)").due("enclave(2)", 1).due("count(12)", 1);
        x.make("seat(0, 2)").due("enclave(2)", 0).make("seat(1, 2)").due("enclave(0)", 1).due("enclave(1)", 1).due("count(12)", 2);
        Run y = new Run(due, "promise 8, the SEAT is SETTLED").make("parish(50, 0)", "parish(40, 0)", "edge(0, 1, 1, 0)");
        y.due("enclave(0)", 0).due("enclave(1)", 0);
        y.make("settle(0, 1)").due("enclave(0)", 0).due("enclave(1)", 1);
    }

    private static void promise8WaysOfItsOwnSide() {
        Run x = new Run(due, "promise 8, over its own SIDE");
        x.make("parish(10, 0)", "parish(10, 1)", "parish(50, 2)", "edge(0, 2, 1, 1)", "edge(2, 1, 1, 1)");
        x.due("enclave(1)", 0).make("settle(2, 1)").due("enclave(1)", 1).due("enclave(2)", 1).due("count(12)", 2);
        x.make("edge(1, 0, 9, 0)").due("enclave(1)", 0).due("count(12)", 1);
    }

    private static void promise8WayOverAllParishes() {
        Run x = new Run(due, "promise 8, over 12 PARISHES").times(12, "parish(0, 0)");
        for (int i = 0; i < 11; i++) {
            x.due("count(12)", 11 - i).make("edge(" + i + ", " + (i + 1) + ", 1, 0)");
        }
        x.due("count(12)", 0).due("enclave(11)", 0).make("seat(0, 11)").due("enclave(0)", 0).due("count(12)", 0);
        Run y = new Run(due, "promise 8, told from the other end").times(12, "parish(0, 0)");
        for (int i = 11; i > 0; i--) {
            y.make("edge(" + i + ", " + (i - 1) + ", 1, 0)");
        }
        y.due("enclave(11)", 0).due("count(12)", 0).make("seat(0, 11)").due("enclave(0)", 0).due("count(12)", 0);
    }

    // ---- promise 9: far

    private static void promise9ParishesAndRail() {
        new Run(due, "promise 9, empty land").refusedBeside("far(?, 0, 0)", -1, 0);
        Run x = Lands.some(due, "promise 9");
        x.refusedBeside("far(?, 0, 0)", -1, 3).refusedBeside("far(0, ?, 0)", -1, 3).refusedBeside("far(0, 1, ?)", -1, 2);
        x.due("far(2, 0, 0)", 5).due("far(0, 2, 1)", 5).changesNothing("far(0, 1, 0)", "far(1, 0, 1)");
        Run full = Lands.full(due, "promise 9");
        full.refusedBeside("far(?, 0, 1)", -1, 12).refusedBeside("far(0, ?, 1)", -1, 12).refusedBeside("far(0, 11, ?)", -1, 2);
        full.make("far(11, 0, 0)", "far(0, 11, 0)");
        Run far = Lands.two(due, "promise 9, BEYOND ahead of NONE");
        far.refused("far(0, 1, 2)", BEYOND).refused("far(0, 1, -1)", BEYOND).refused("far(0, 1, 0)", NONE).refused("far(0, 1, 1)", NONE);
        far.due("found(1)", 2).due("found(2)", 2).refusedWith("far(0, 0, ?)", BEYOND, LEAST, -1, 2, GREATEST);
    }

    private static void promise9OfOneParish() {
        Run x = Lands.two(due, "promise 9, both are one");
        x.due("far(0, 0, 0)", 0).due("far(0, 0, 1)", 0).due("far(1, 1, 1)", 0).make("edge(0, 1, 1, 1)").due("far(0, 0, 0)", 0);
    }

    private static void promise9NoWay() {
        Run x = new Run(due, "promise 9, no way").make("parish(0, 0)", "parish(1, 0)", "parish(2, 0)", "edge(0, 1, 1, 0)");
        x.refused("far(0, 2, 0)", NONE).refused("far(2, 1, 0)", NONE).refused("far(0, 1, 1)", NONE).due("far(0, 1, 0)", 1);
        x.make("edge(1, 2, 1, 1)").due("far(0, 2, 0)", 2).refused("far(0, 2, 1)", NONE).due("far(1, 2, 1)", 1);
        x.make("edge(0, 2, 9, 1)").due("far(0, 2, 0)", 2).due("far(0, 2, 1)", 9).due("far(0, 1, 1)", 10).due("found(2)", 4);
    }

    private static void promise9ShortestAndLongest() {
        Run x = new Run(due, "promise 9, 99 days").times(12, "parish(0, 0)");
        for (int i = 11; i > 0; i--) {
            x.make("edge(" + i + ", " + (i - 1) + ", 9, 1)");
        }
        x.due("far(0, 11, 0)", 99).due("far(11, 0, 1)", 99).due("far(0, 10, 1)", 90);
        x.make("edge(0, 11, 1, 0)").due("far(0, 11, 0)", 1).due("far(0, 11, 1)", 99).due("far(0, 6, 0)", 46).due("far(0, 5, 0)", 45);
        Run y = new Run(due, "promise 9, many EDGES are shorter").times(12, "parish(0, 0)").make("edge(0, 11, 9, 1)");
        for (int i = 0; i < 11; i++) {
            y.make("edge(" + i + ", " + (i + 1) + ", 1, 1)");
        }
        y.due("far(0, 11, 1)", 9).due("far(0, 10, 1)", 10).due("far(0, 9, 1)", 9).due("far(11, 1, 0)", 10).due("far(11, 2, 0)", 9);
    }
}
