/** The boundary cases of the promises 20 to 25, and of what Terms say of things and of THE PARTING. */
public final class ThingsBoundaryTest {
    private static final int BEYOND = Due.BEYOND;
    private static final int NONE = Due.NONE;
    private static final int STATE = Due.STATE;
    private static final int FULL = Due.FULL;
    private static final int KIND = Due.KIND;
    private static final int LEAST = Integer.MIN_VALUE;
    private static final int GREATEST = Integer.MAX_VALUE;

    private static final Due due = new Due();

    private ThingsBoundaryTest() {
    }

    public static void main(String[] args) {
        promise20KindsAre0To6();
        promise20ParishOfFixedOnes();
        promise20PledgeOfADebt();
        promise20ZeroOfOthers();
        promise20WorthIs0To10000();
        promise20TwentyFourAtMost();
        promise21ThingAndKind();
        promise21KindsUnderKinds();
        promise22ThingsOfATie();
        promise22OnlyMovedOnes();
        promise22TwelveAtMost();
        promise22SeveralOfTwo();
        promise23ThingAndWorth();
        promise23OnlyMovedOnes();
        promise23OneStaysAtLeast();
        promise23NoRoom();
        promise23TheNewOne();
        promise24NoSuchThing();
        promise24EachKind();
        promise24FourteenGroups();
        promise24DebtsByLand();
        promise24NearestOnBothSides();
        promise24AsNearTheLeastThing();
        promise24WorthsOf0();
        promise24TiesOverOthers();
        promise24TiesInEveryForm();
        promise24ByTheLawAlone();
        promise24KeptNoLongerThanItHolds();
        promise25What();
        promise25FourteenGroups();
        promise25NothingToPart();
        promise25QuotientsAreCut();
        promise25LeastAndGreatestShare();
        promise25GreatestWorths();
        due.end();
    }

    /** THINGS of each KIND: THING 0 of KIND 0, and so on to 6; WORTHS 100 and more. PARISH 1 is of SIDE 1. */
    private static Run ofEachKind(String name) {
        Run x = Lands.two(due, name);
        return x.make("thing(0, 100)", "thing(1001, 101)", "thing(2001, 102)", "thing(3000, 103)", "thing(4000, 104)", "thing(5001, 105)",
            "thing(6000, 106)");
    }

    private static Run moved(String name, int... worths) {
        Run x = Lands.two(due, name);
        for (int worth : worths) {
            x.make("thing(3000, " + worth + ")");
        }
        return x;
    }

    /** WHERE each THING goes, a digit each. */
    private static Run go(Run x, String sides) {
        for (int i = 0; i < sides.length(); i++) {
            x.due("goes(" + i + ")", sides.charAt(i) - '0');
        }
        return x;
    }

    // ---- promise 20: thing

    private static void promise20KindsAre0To6() {
        for (Run x : Lands.all(due, "promise 20")) {
            x.refusedWith("thing(?, 1)", BEYOND, LEAST, -7000, -6001, -6000, -3000, -1001, -1000, -999, -1, 7000, 7001, 8000, 10000, GREATEST);
        }
        ofEachKind("promise 20").due("count(4)", 7).due("thing(0, 0)", 7);
    }

    private static void promise20ParishOfFixedOnes() {
        new Run(due, "promise 20, no PARISH").refusedWith("thing(?, 1)", BEYOND, 1000, 1001, 2000, 2001).due("thing(0, 1)", 0);
        Run x = Lands.two(due, "promise 20, PARISH");
        x.due("thing(1000, 1)", 0).due("thing(1001, 1)", 1).due("thing(2000, 1)", 2).due("thing(2001, 1)", 3);
        x.refusedWith("thing(?, 1)", BEYOND, 1002, 1012, 1999, 2002, 2999).due("goes(0)", 0).due("goes(1)", 1);
        Run twelve = new Run(due, "promise 20, 12 PARISHES").times(12, "parish(1, 1)");
        twelve.due("thing(1011, 1)", 0).due("thing(2011, 1)", 1).refusedWith("thing(?, 1)", BEYOND, 1012, 2012);
        Lands.full(due, "promise 20, PARISH").refusedWith("thing(?, 1)", BEYOND, 1012, 2012);
    }

    private static void promise20PledgeOfADebt() {
        Run x = ofEachKind("promise 20, pledge");
        x.refusedWith("thing(?, 1)", BEYOND, 5000, 5003, 5004, 5005, 5006, 5007, 5008, 5999);
        x.due("thing(5001, 1)", 7).due("thing(5002, 1)", 8).refused("thing(5007, 1)", BEYOND).refused("thing(5009, 1)", BEYOND);
        Run y = Lands.two(due, "promise 20, the pledge is the last one").refused("thing(5000, 1)", BEYOND).make("thing(1000, 1)");
        y.refused("thing(5001, 1)", BEYOND).due("thing(5000, 1)", 1).times(20, "thing(3000, 1)").due("thing(1001, 1)", 22);
        y.due("thing(5022, 1)", 23).refused("thing(5022, 1)", FULL).refused("thing(5023, 1)", BEYOND).refused("thing(5024, 1)", BEYOND);
    }

    private static void promise20ZeroOfOthers() {
        for (Run x : Lands.all(due, "promise 20, 0 of others")) {
            x.refusedWith("thing(?, 1)", BEYOND, 1, 2, 999, 3001, 3999, 4001, 4999, 6001, 6999);
        }
    }

    private static void promise20WorthIs0To10000() {
        Run x = Lands.two(due, "promise 20, WORTH").due("thing(0, 0)", 0).due("thing(3000, 10000)", 1).due("thing(1000, 10000)", 2);
        x.due("thing(5002, 10000)", 3).due("thing(1000, 0)", 4).due("as(0, 0)", 0).due("as(1, 3)", 10000).due("as(3, 5)", 10000).due("as(4, 1)", 0);
        x.refusedBeside("thing(0, ?)", -1, 10001).refusedBeside("thing(1000, ?)", -1, 10001).refusedBeside("thing(5002, ?)", -1, 10001);
        x.due("count(4)", 5);
        for (Run y : Lands.all(due, "promise 20, WORTH")) {
            y.refusedBeside("thing(3000, ?)", -1, 10001);
        }
    }

    private static void promise20TwentyFourAtMost() {
        Run x = Lands.two(due, "promise 20, 24 at most");
        for (int i = 0; i < 24; i++) {
            x.due("count(4)", i).due("thing(1000, " + i + ")", i);
        }
        x.refusedWith("thing(?, 1)", FULL, 0, 1001, 2001, 3000, 4000, 5023, 6000).due("count(4)", 24).due("as(23, 1)", 23);
        x.refusedWith("thing(?, 1)", BEYOND, 1, -1, 1002, 2002, 3001, 4001, 5024, 6001, 7000);
        x.refused("thing(0, -1)", BEYOND).refused("thing(0, 10001)", BEYOND).due("found(4)", 7);
    }

    // ---- promise 21: as

    private static void promise21ThingAndKind() {
        new Run(due, "promise 21, empty land").refusedBeside("as(?, 0)", -1, 0);
        Run x = ofEachKind("promise 21").refusedBeside("as(?, 0)", -1, 7).refusedBeside("as(0, ?)", -1, 7).refusedBeside("as(6, ?)", -1, 7);
        x.due("as(0, 0)", 100).due("as(6, 6)", 106).refused("as(7, 1)", BEYOND).refused("as(0, 6)", KIND).refused("as(1, 2)", KIND);
        x.changesNothing("as(0, 0)", "as(6, 3)");
        Lands.some(due, "promise 21").refusedBeside("as(?, 6)", -1, 7).refusedBeside("as(5, ?)", -1, 7).due("as(5, 6)", 9);
        Lands.full(due, "promise 21").refusedBeside("as(?, 0)", -1, 24).due("as(23, 6)", 10000).refused("as(23, 5)", KIND);
    }

    private static void promise21KindsUnderKinds() {
        Run x = ofEachKind("promise 21, KINDS");
        String[] above = {"0", "01", "012", "03", "034", "035", "036"};
        for (int thing = 0; thing <= 6; thing++) {
            for (int kind = 0; kind <= 6; kind++) {
                boolean is = above[thing].indexOf('0' + kind) >= 0;
                x.due("as(" + thing + ", " + kind + ")", is ? 100 + thing : KIND);
            }
        }
        x.due("found(5)", 49 - 17).due("found(1)", 0);
    }

    // ---- promise 22: tie

    private static void promise22ThingsOfATie() {
        new Run(due, "promise 22, empty land").refused("tie(0, 0)", BEYOND).refused("tie(0, 1)", BEYOND);
        Run x = ofEachKind("promise 22").refusedBeside("tie(3, ?)", -1, 7).refusedBeside("tie(?, 3)", -1, 7);
        x.refused("tie(3, 3)", BEYOND).refused("tie(6, 6)", BEYOND).due("tie(3, 6)", 1).due("tie(6, 3)", 2);
        Lands.some(due, "promise 22").refusedBeside("tie(5, ?)", -1, 7).refusedBeside("tie(?, 5)", -1, 7).refused("tie(4, 4)", BEYOND);
        Lands.full(due, "promise 22").refusedBeside("tie(23, ?)", -1, 24).refusedBeside("tie(?, 23)", -1, 24).refused("tie(23, 23)", BEYOND);
    }

    private static void promise22OnlyMovedOnes() {
        Run x = ofEachKind("promise 22, KIND");
        for (int other = 0; other <= 2; other++) {
            x.refused("tie(" + other + ", 3)", KIND).refused("tie(3, " + other + ")", KIND);
            // BEYOND is asked ahead of KIND.
            x.refused("tie(" + other + ", " + other + ")", BEYOND).refused("tie(" + other + ", 7)", BEYOND);
            x.refused("tie(7, " + other + ")", BEYOND).refused("tie(-1, " + other + ")", BEYOND);
        }
        x.refused("tie(0, 1)", KIND);
        x.due("tie(3, 4)", 1).due("tie(4, 5)", 2).due("tie(5, 6)", 3).due("rest(2)", 1);
    }

    private static void promise22TwelveAtMost() {
        Run x = moved("promise 22, 12 at most", 1, 1, 1, 1, 1, 1, 1, 1, 1, 1, 1, 1, 1, 1).make("thing(0, 1)");
        for (int i = 0; i < 12; i++) {
            x.due("rest(2)", 14 - i).due("count(5)", i).due("tie(" + i + ", " + (i + 1) + ")", i + 1);
        }
        x.due("rest(2)", 2).refused("tie(12, 13)", FULL).refused("tie(0, 1)", FULL).due("rest(2)", 2).due("count(5)", 12);
        x.refused("tie(0, 14)", KIND).refused("tie(14, 13)", KIND).refused("tie(13, 13)", BEYOND).refused("tie(13, 15)", BEYOND);
        x.due("found(4)", 2).due("found(5)", 2).due("found(1)", 2);
    }

    private static void promise22SeveralOfTwo() {
        Run x = moved("promise 22, several of two", 5, 5).due("tie(0, 1)", 1).due("tie(0, 1)", 2).due("tie(1, 0)", 3).due("rest(2)", 1);
        x.due("count(5)", 3);
    }

    // ---- promise 23: part

    private static void promise23ThingAndWorth() {
        new Run(due, "promise 23, empty land").refused("part(0, 1)", BEYOND).refused("part(-1, 1)", BEYOND);
        Run x = moved("promise 23", 10).refusedBeside("part(?, 1)", -1, 1);
        x.refusedWith("part(0, ?)", BEYOND, 0, -1, -10, LEAST).due("part(0, 1)", 1).due("as(0, 3)", 9).due("as(1, 3)", 1).due("count(4)", 2);
        // What is above every WORTH isn't BEYOND: nothing would stay.
        x.refusedWith("part(0, ?)", STATE, 9, 10, 10000, 10001, GREATEST);
        Lands.some(due, "promise 23").refusedBeside("part(?, 1)", -1, 7).refusedWith("part(3, ?)", BEYOND, 0, -1, LEAST);
        Lands.full(due, "promise 23").refusedBeside("part(?, 1)", -1, 24).refusedWith("part(23, ?)", BEYOND, 0, -1, LEAST);
    }

    private static void promise23OnlyMovedOnes() {
        Run x = ofEachKind("promise 23, KIND");
        for (int thing = 0; thing <= 2; thing++) {
            x.refused("part(" + thing + ", 1)", KIND).refused("part(" + thing + ", 99)", KIND).refused("part(" + thing + ", 20000)", KIND);
            x.refused("part(" + thing + ", 0)", BEYOND);
        }
        for (int thing = 3; thing <= 6; thing++) {
            x.due("part(" + thing + ", 1)", thing + 4).due("as(" + (thing + 4) + ", " + thing + ")", 1);
        }
        x.refused("part(11, 1)", BEYOND);
        Lands.full(due, "promise 23, KIND").refused("part(0, 1)", KIND).refused("part(1, 5)", KIND).refused("part(2, 1)", KIND);
    }

    private static void promise23OneStaysAtLeast() {
        Run x = moved("promise 23, 1 stays at least", 10000, 2, 1, 0);
        x.refused("part(0, 10000)", STATE).refused("part(0, 10001)", STATE).due("part(0, 9999)", 4).due("as(0, 0)", 1).due("as(4, 0)", 9999);
        x.refused("part(0, 1)", STATE).refused("part(1, 2)", STATE).due("part(1, 1)", 5).due("as(1, 0)", 1).due("as(5, 0)", 1);
        x.refused("part(1, 1)", STATE).refused("part(2, 1)", STATE).refused("part(3, 1)", STATE).due("found(3)", 7).due("count(4)", 6);
    }

    private static void promise23NoRoom() {
        Run x = moved("promise 23, FULL", 50).times(22, "thing(0, 5)").due("part(0, 10)", 23).refused("part(0, 10)", FULL);
        x.refused("part(23, 9)", FULL).refused("part(0, 40)", STATE).refused("part(23, 10)", STATE).refused("part(1, 1)", KIND);
        x.refused("part(1, 9)", KIND).refused("part(24, 1)", BEYOND).refused("part(0, 0)", BEYOND).due("as(0, 3)", 40).due("as(23, 3)", 10);
        x.due("count(4)", 24).due("found(4)", 2);
    }

    private static void promise23TheNewOne() {
        Run x = Lands.two(due, "promise 23, of a DEBT with its pledge").make("thing(1000, 1)", "thing(1001, 1)", "thing(5001, 10)");
        x.enact("dl;").due("goes(2)", 1).due("part(2, 4)", 3).due("goes(3)", 1).due("as(3, 5)", 4).due("rest(2)", 0);
        Run y = moved("promise 23, not TIED", 60, 40).make("tie(0, 1)").due("rest(2)", 1).due("part(0, 50)", 2).due("rest(2)", 2);
        go(y, "001").due("rest(0)", 0).due("rest(1)", 100).due("tie(2, 0)", 2).due("rest(2)", 1);
        Run z = Lands.two(due, "promise 23, not COPIED").make("thing(4000, 5)").due("copy(0)", 1).due("part(0, 1)", 1).due("copy(1)", 1);
        z.refused("copy(0)", STATE).refused("copy(1)", STATE);
    }

    // ---- promise 24: goes

    private static void promise24NoSuchThing() {
        new Run(due, "promise 24, empty land").refusedBeside("goes(?)", -1, 0);
        Lands.some(due, "promise 24").refusedBeside("goes(?)", -1, 7).refused("goes(6)", NONE)
            .changesNothing("goes(0)", "goes(1)", "goes(2)", "goes(3)", "goes(5)");
        Lands.full(due, "promise 24").refusedBeside("goes(?)", -1, 24).make("goes(23)");
    }

    private static void promise24EachKind() {
        Run x = ofEachKind("promise 24, KINDS").refused("goes(0)", NONE).due("goes(1)", 1).due("goes(2)", 2);
        x.make("thing(1000, 1)", "thing(2000, 1)").due("goes(7)", 0).due("goes(8)", 2);
        Run y = new Run(due, "promise 24, on THE LINE").make("parish(50, 50)", "thing(1000, 1)", "thing(2000, 1)", "thing(5001, 5)");
        y.enact("dl;").due("goes(0)", 0).due("goes(2)", 0).make("settle(0, 1)").due("goes(0)", 1).due("goes(1)", 2).due("goes(2)", 1);
        y.make("peg(51, 0)").due("goes(0)", 0).due("goes(2)", 0);
        // A USE goes to both, though all hours be of one SIDE.
        y.enact("u00;").due("law(4)", 0).due("goes(1)", 2).enact("u24;").due("law(4)", 24).due("goes(1)", 2);
    }

    private static void promise24FourteenGroups() {
        Run x = Lands.two(due, "promise 24, 14 GROUPS").make("thing(0, 1)", "thing(1001, 1)", "thing(2000, 1)", "thing(5001, 0)");
        x.times(13, "thing(3000, 4)").due("rest(2)", 14).due("goes(3)", 0).due("goes(4)", 0).due("goes(16)", 1).make("thing(6000, 0)");
        x.due("rest(2)", 15).refused("goes(3)", STATE).refused("goes(4)", STATE).refused("goes(17)", STATE);
        // What doesn't go by THE PARTING goes all the same.
        x.refused("goes(0)", NONE).due("goes(1)", 1).due("goes(2)", 2).refused("goes(18)", BEYOND).refused("goes(-1)", BEYOND);
        x.enact("dl;").due("rest(2)", 14).due("goes(3)", 1).due("goes(4)", 0).due("goes(17)", 0);
        x.make("thing(4000, 0)").due("goes(3)", 1).refused("goes(4)", STATE).make("tie(17, 18)").due("goes(4)", 0);
        Run y = Lands.two(due, "promise 24, 24 GROUPS").times(24, "thing(3000, 1)").due("rest(2)", 24).refused("goes(0)", STATE);
        for (int i = 0; i < 9; i++) {
            y.make("tie(" + i + ", " + (i + 1) + ")");
        }
        y.due("rest(2)", 15).refused("goes(23)", STATE).make("tie(22, 23)").due("rest(2)", 14).due("goes(0)", 0).due("goes(23)", 1);
    }

    private static void promise24DebtsByLand() {
        Run x = Lands.two(due, "promise 24, d l").make("thing(1001, 1)", "thing(2001, 1)", "thing(1000, 1)", "thing(2000, 1)");
        x.make("thing(5000, 9)", "thing(5001, 9)", "thing(5002, 9)", "thing(5003, 9)", "thing(3000, 36)").due("rest(1)", 0).due("rest(2)", 5);
        x.enact("dl;").due("goes(4)", 1).due("goes(5)", 1).due("goes(6)", 0).due("goes(7)", 0).due("rest(1)", 36).due("rest(2)", 1);
        x.enact("ds;").due("rest(1)", 0).due("rest(2)", 5).enact("dl;ds;").due("rest(2)", 5);
        // What a HOUSE alone proposes isn't THE LAW.
        x.propose(0, "dl;", 0).due("rest(2)", 5).due("goes(4)", 0);
    }

    private static void promise24NearestOnBothSides() {
        // 50 of 101 is the aim: 45 is 5 off, 56 is 6 off.
        go(moved("promise 24, below the aim is nearest", 45, 56), "01").due("rest(0)", 5);
        go(moved("promise 24, below it", 56, 45), "10").due("rest(0)", 5);
        go(moved("promise 24, hit", 50, 51), "01").due("rest(0)", 0);
        go(moved("promise 24, 1 off isn't a hit", 9, 10).enact("s53;"), "10").due("rest(0)", 0);
        go(moved("promise 24, 1 off on the other side", 11, 10).enact("s50;"), "10").due("rest(0)", 0);
        go(moved("promise 24, above the aim is nearest", 51, 49).enact("s51;"), "01").due("rest(0)", 0);
        // 3 is the aim: 4 is 1 off, nothing is 3 off.
        go(moved("promise 24, above it", 4, 96).enact("s03;"), "01").due("rest(0)", -1);
        // 1 is the aim: nothing is 1 off, 3 is 2 off.
        go(moved("promise 24, nothing at all", 3, 97, 5).enact("s01;"), "111").due("rest(0)", 1);
        go(moved("promise 24, all of it", 50, 49, 1).enact("s99;"), "001").due("rest(0)", 0);
    }

    private static void promise24AsNearTheLeastThing() {
        go(moved("promise 24, as near above and below", 40, 60), "01").due("rest(0)", 10);
        go(moved("promise 24, as near below and above", 60, 40), "01").due("rest(0)", -10);
        go(moved("promise 24, one THING, as near", 100), "0").due("rest(0)", -50);
        go(moved("promise 24, 2 of 4", 1, 1, 1, 1), "0011");
        go(moved("promise 24, the first, then the next one", 10, 20, 30, 40), "0110");
        go(moved("promise 24, the first and the second", 20, 20, 10, 10, 20), "00111");
        go(moved("promise 24, the GROUP with the least THING", 10, 20, 30, 40).make("tie(3, 0)"), "0110");
        go(moved("promise 24, GROUPS by their least THING", 25, 50, 25).make("tie(0, 2)"), "010");
        go(moved("promise 24, the last GROUP", 1, 2, 4, 8, 16, 32, 64, 128, 256, 512, 1024, 2048, 4096, 8192).enact("s50;"), "00000000000001");
    }

    private static void promise24WorthsOf0() {
        go(moved("promise 24, WORTHS of 0", 0, 0, 0), "000").due("rest(0)", 0).due("rest(1)", 0).due("rest(2)", 3);
        go(moved("promise 24, WORTHS of 0 by s 0", 0, 5, 0).enact("s00;"), "010").due("rest(0)", 0);
        go(moved("promise 24, WORTH 1", 1), "1").due("rest(0)", 0);
    }

    private static void promise24TiesOverOthers() {
        Run x = Lands.two(due, "promise 24, over DEBTS").make("thing(1001, 0)", "thing(5000, 7)", "thing(5000, 7)", "thing(3000, 30)");
        x.make("thing(3000, 20)", "thing(6000, 50)", "tie(3, 1)", "tie(1, 2)", "tie(2, 4)").due("rest(2)", 2).due("rest(1)", 86);
        // 36 and 50 of 86: 43 is 7 off both; the DEBT is the least THING, and so goes to SIDE 0.
        x.due("goes(1)", 0).due("goes(3)", 0).due("goes(4)", 0).due("goes(5)", 1).due("rest(0)", 7);
        x.enact("dl;").due("rest(2)", 2).due("rest(1)", 100).due("goes(1)", 1).due("goes(3)", 0).due("goes(4)", 0).due("goes(5)", 1);
        Run y = Lands.two(due, "promise 24, only DEBTS by d l").make("thing(1001, 0)", "thing(5000, 7)", "thing(5000, 7)", "tie(1, 2)");
        y.enact("dl;").due("rest(2)", 0).due("rest(1)", 0).due("rest(0)", 0).due("goes(1)", 1).due("goes(2)", 1);
        // A left-out DEBT with a lesser number doesn't bring its GROUP ahead of another.
        Run z = Lands.two(due, "promise 24, the least THING that is parted").make("thing(1000, 0)", "thing(5000, 1)", "thing(3000, 40)");
        z.make("thing(3000, 60)", "tie(1, 3)").enact("dl;").due("goes(2)", 0).due("goes(3)", 1).due("rest(0)", 10);
    }

    private static void promise24TiesInEveryForm() {
        // Stars from each end, chains told in several orders, a ring: 0 to 3 are one GROUP, 4 is another.
        String[] forms = {"tie(0, 1) tie(0, 2) tie(0, 3)", "tie(1, 0) tie(2, 0) tie(3, 0)", "tie(3, 0) tie(3, 1) tie(3, 2)",
            "tie(0, 3) tie(1, 3) tie(2, 3)", "tie(2, 0) tie(2, 1) tie(2, 3)", "tie(0, 1) tie(2, 3) tie(1, 2)", "tie(0, 1) tie(2, 3) tie(3, 0)",
            "tie(2, 3) tie(1, 2) tie(0, 1)", "tie(3, 2) tie(2, 1) tie(1, 0)", "tie(0, 2) tie(1, 3) tie(1, 2)", "tie(3, 1) tie(1, 0) tie(2, 3)",
            "tie(0, 1) tie(1, 2) tie(2, 3) tie(3, 0)"};
        for (String form : forms) {
            Run x = moved("promise 24, " + form, 10, 20, 30, 40, 100).make(form.replace(") ", ");").split(";"));
            go(x.due("rest(2)", 2), "00001").due("rest(0)", 0);
        }
        for (int step : new int[] {1, 5}) {
            Run x = Lands.two(due, "promise 24, a chain of 13 told by steps of " + step).times(14, "thing(3000, 1)");
            for (int i = 0; i < 12; i++) {
                int tie = 11 - i * step % 12;
                x.make("tie(" + (tie + i % 2) + ", " + (tie + 1 - i % 2) + ")");
            }
            x.due("rest(2)", 2).due("rest(0)", 7 - 13).due("goes(0)", 0).due("goes(12)", 0).due("goes(13)", 1);
        }
    }

    private static void promise24ByTheLawAlone() {
        Run x = Lands.two(due, "promise 24, by THE LAW alone").make("thing(1001, 0)", "thing(5000, 4)", "thing(3000, 10)");
        // What one HOUSE holds to doesn't count, also for what is asked for the first time behind it.
        x.propose(0, "dl;s99;", 0).make("thing(6000, 8)").due("rest(2)", 3).due("rest(1)", 14).due("rest(0)", 1);
        x.due("goes(1)", 0).due("goes(2)", 0).due("goes(3)", 1);
        x.propose(0, "", 1).propose(1, "dl;s99;", 0).make("thing(6000, 0)").due("rest(2)", 4).due("rest(1)", 14).due("rest(0)", 1);
        x.due("goes(1)", 0).due("goes(2)", 0).due("goes(3)", 1).due("goes(4)", 0);
        // 99 hundredths of 18 are 17; DEBT 1 goes with PARISH 1.
        x.propose(0, "dl;s99;", 1).due("rest(2)", 3).due("rest(1)", 18).due("rest(0)", -1).due("goes(1)", 1).due("goes(3)", 0);
        x.propose(0, "", 0).make("thing(6000, 2)").due("rest(1)", 20).due("rest(0)", -1).due("goes(1)", 1).due("goes(5)", 0);
        x.propose(0, "dl;s99;", 1).propose(1, "", 0).make("thing(6000, 3)").due("rest(1)", 23).due("rest(0)", -1).due("goes(1)", 1);
    }

    private static void promise24KeptNoLongerThanItHolds() {
        Run x = moved("promise 24, asked again", 60, 30);
        go(x, "01").due("rest(0)", -15).make("thing(3000, 20)");
        // 55 of 110: 60, 50 (30 and 20) are 5 off both.
        go(x, "011").due("rest(0)", -5).make("part(0, 5)");
        go(x, "0111").due("rest(0)", 0).make("tie(0, 2)");
        // GROUPS of 75, 30 and 5: 75 and 35 are 20 off both.
        go(x, "0101").due("rest(0)", -20).enact("s00;");
        go(x, "1111").due("rest(0)", 0).enact("s99;");
        // 108 of 110: all are 2 off.
        go(x, "0000").propose(0, "", 0).due("rest(0)", -2).propose(1, "", 1).due("rest(0)", -20);
        go(x, "0101");
    }

    // ---- promise 25: rest

    private static void promise25What() {
        for (Run x : Lands.all(due, "promise 25")) {
            x.refusedBeside("rest(?)", -1, 3).changesNothing("rest(0)", "rest(1)", "rest(2)");
        }
    }

    private static void promise25FourteenGroups() {
        Run x = Lands.two(due, "promise 25, 14 GROUPS").times(14, "thing(3000, 1)").due("rest(0)", 0).due("rest(1)", 14).due("rest(2)", 14);
        x.make("thing(3000, 1)").refused("rest(0)", STATE).refused("rest(1)", STATE).due("rest(2)", 15);
        x.refused("rest(3)", BEYOND).refused("rest(-1)", BEYOND).due("found(3)", 2);
        x.make("tie(0, 14)").due("rest(0)", 0).due("rest(1)", 15).due("rest(2)", 14);
        Lands.two(due, "promise 25, 24 GROUPS").times(24, "thing(3000, 1)").refused("rest(0)", STATE).refused("rest(1)", STATE).due("rest(2)", 24);
    }

    private static void promise25NothingToPart() {
        new Run(due, "promise 25, empty land").due("rest(0)", 0).due("rest(1)", 0).due("rest(2)", 0);
        Run x = Lands.two(due, "promise 25, nothing to part").make("thing(0, 9)", "thing(1000, 9)", "thing(2000, 9)");
        x.due("rest(0)", 0).due("rest(1)", 0).due("rest(2)", 0).make("thing(5001, 9)").due("rest(1)", -9).due("rest(2)", 1);
        x.enact("dl;").due("rest(0)", 0).due("rest(1)", 0).due("rest(2)", 0);
    }

    private static void promise25QuotientsAreCut() {
        moved("promise 25, 3 by half").make("thing(3000, 3)").due("rest(0)", 1).due("rest(1)", 3);
        moved("promise 25, 199 by 1").make("thing(3000, 199)").enact("s01;").due("rest(0)", 1);
        moved("promise 25, 99 by 1").make("thing(3000, 99)").enact("s01;").due("rest(0)", 0);
        Run x = Lands.two(due, "promise 25, below 0").make("thing(1000, 0)", "thing(5000, 3)");
        x.due("rest(0)", -1).due("rest(1)", -3).due("goes(1)", 1).enact("s99;").due("rest(0)", 1).due("goes(1)", 0);
        Run y = Lands.two(due, "promise 25, 99 below 0 by 1").make("thing(1000, 0)", "thing(5000, 99)").enact("s01;");
        y.due("rest(0)", 0).due("goes(1)", 1).due("rest(1)", -99);
    }

    private static void promise25LeastAndGreatestShare() {
        go(moved("promise 25, s 00", 5, 7).enact("s00;"), "11").due("rest(0)", 0);
        go(moved("promise 25, s 99", 5, 7).enact("s99;"), "00").due("rest(0)", -1);
        go(moved("promise 25, s 99 of 100", 1, 99).enact("s99;"), "10").due("rest(0)", 0);
    }

    private static void promise25GreatestWorths() {
        Run x = Lands.two(due, "promise 25, the greatest WORTHS").times(24, "thing(3000, 10000)");
        for (int i = 0; i < 10; i++) {
            x.make("tie(" + i + ", " + (i + 1) + ")");
        }
        x.due("rest(2)", 14).due("rest(1)", 240000).due("rest(0)", 0).due("goes(0)", 0).due("goes(11)", 0).due("goes(12)", 1);
        x.enact("s99;").due("rest(0)", -2400).enact("s98;").due("rest(0)", 5200 - 10000);
        Run y = Lands.two(due, "promise 25, the greatest DEBTS").make("thing(1000, 0)").times(23, "thing(5000, 10000)");
        for (int i = 1; i < 11; i++) {
            y.make("tie(" + i + ", " + (i + 1) + ")");
        }
        y.due("rest(2)", 13).due("rest(1)", -230000).due("rest(0)", -115000 + 120000).due("goes(1)", 0).due("goes(12)", 0).due("goes(13)", 1);
    }
}
