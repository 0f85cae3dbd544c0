/** The boundary cases of the promises 26 to 33, and of what Terms say of coin, wagons and days. */
public final class CoinBoundaryTest {
    private static final int BEYOND = Due.BEYOND;
    private static final int NONE = Due.NONE;
    private static final int FULL = Due.FULL;
    private static final int LEAST = Integer.MIN_VALUE;
    private static final int GREATEST = Integer.MAX_VALUE;

    private static final Due due = new Due();

    private CoinBoundaryTest() {
    }

    public static void main(String[] args) {
        promise26PersonAndCoin();
        promise27RatesAre1To200();
        promise27LimitIs0To9999();
        promise27DaysAre0To9();
        promise27AtFirst();
        promise28SideAndWhat();
        promise28TheLesserRate();
        promise28LimitAtMost();
        promise28SoManyDaysOrFewer();
        promise28SomeParishOfTheOtherSide();
        promise28QuotientsAreCutForEach();
        promise28NothingThere();
        promise28AllAtTheirMost();
        promise29SideAndParish();
        promise29TenAtMost();
        promise30WagonAndParish();
        promise30NoRailsLeadThere();
        promise30ToWhereItIs();
        promise30BehindTheLastDay();
        promise30LeastParishAtEachStep();
        promise30SentAnew();
        promise31WagonAndDay();
        promise31OnTheDayOnWhichItComes();
        promise31TheLongestWay();
        promise32NoSuchWagon();
        promise32OnNewYearOrAhead();
        promise32NearestOfItsSideByRails();
        promise33DaysAre0To400();
        due.end();
    }

    /** PARISH 0 on SIDE 0 and 1 on SIDE 1, so many days apart; PERSON 0 of HOME 0 and PERSON 1 of HOME 1, with coin. */
    private static Run twoHoards(String name, int days, int first, int second) {
        Run x = Lands.two(due, name).make("edge(0, 1, " + days + ", 0)", "person(0, 0)", "person(0, 1)");
        return x.make("hoard(0, " + first + ")", "hoard(1, " + second + ")");
    }

    // ---- promise 26: hoard

    private static void promise26PersonAndCoin() {
        Lands.two(due, "promise 26, no PERSON").refusedBeside("hoard(?, 0)", -1, 0);
        Run x = Lands.two(due, "promise 26").make("person(0, 0)").due("hoard(0, 0)", 0).due("hoard(0, 9999)", 0).due("stamp(0, 1)", 9999);
        x.refusedBeside("hoard(0, ?)", -1, 10000).refusedBeside("hoard(?, 5)", -1, 1).due("hoard(0, 0)", 9999).due("hoard(0, 1)", 0);
        Lands.some(due, "promise 26").refusedBeside("hoard(0, ?)", -1, 10000).refusedBeside("hoard(?, 5)", -1, 3).due("hoard(0, 1)", 500);
        Lands.full(due, "promise 26").refusedBeside("hoard(?, 5)", -1, 16).due("hoard(15, 0)", 9999).due("hoard(15, 9999)", 0);
    }

    // ---- promise 27: week

    private static void promise27RatesAre1To200() {
        int[] wrong = {LEAST, -200200, -100100, -100000, -1001, -1000, -1, 0, 1, 100, 200, 999, 1000, 1201, 1999, 100000, 100201, 100999, 200000,
            200201, 201001, 201200, 201000, 300100, GREATEST};
        for (Run x : Lands.all(due, "promise 27, RATES")) {
            x.refusedWith("week(?, 9999, 7)", BEYOND, wrong);
        }
        // Of 1000 coin of each SIDE that nobody carries over, as LIMIT is 0.
        Run x = twoHoards("promise 27, RATES", 1, 1000, 1000);
        x.due("week(1001, 0, 0)", 1).due("stamp(0, 0)", 10).due("stamp(1, 0)", 10);
        x.due("week(200200, 0, 0)", 1).due("stamp(0, 0)", 2000).due("stamp(1, 0)", 2000);
        x.due("week(1200, 0, 0)", 1).due("stamp(0, 0)", 10).due("stamp(1, 0)", 2000);
        x.due("week(200001, 0, 0)", 1).due("stamp(0, 0)", 2000).due("stamp(1, 0)", 10);
    }

    private static void promise27LimitIs0To9999() {
        for (Run x : Lands.all(due, "promise 27, LIMIT")) {
            x.refusedBeside("week(100101, ?, 9)", -1, 10000);
        }
        Run x = twoHoards("promise 27, LIMIT", 1, 9999, 0);
        x.due("week(100101, 0, 9)", 1).due("stamp(1, 2)", 0).due("week(100101, 9999, 9)", 1).due("stamp(1, 2)", 9999);
        x.refused("week(101100, 10000, 9)", BEYOND).due("stamp(1, 2)", 9999);
    }

    private static void promise27DaysAre0To9() {
        for (Run x : Lands.all(due, "promise 27, DAYS")) {
            x.refusedBeside("week(100101, 9999, ?)", -1, 10);
        }
        Run x = twoHoards("promise 27, DAYS", 9, 50, 0);
        x.due("week(100101, 9999, 0)", 1).due("stamp(1, 2)", 0).due("week(100101, 9999, 9)", 1).due("stamp(1, 2)", 50);
        x.refused("week(100101, 9999, 10)", BEYOND).due("stamp(1, 2)", 50);
    }

    private static void promise27AtFirst() {
        Run x = twoHoards("promise 27, RATES at first", 1, 9999, 9999).due("stamp(0, 0)", 9999).due("stamp(1, 0)", 9999);
        x.due("stamp(0, 2)", 0).due("stamp(1, 2)", 0);
    }

    // ---- promise 28: stamp

    private static void promise28SideAndWhat() {
        for (Run x : Lands.all(due, "promise 28")) {
            x.refusedBeside("stamp(?, 0)", -1, 2).refusedBeside("stamp(0, ?)", -1, 3).refusedBeside("stamp(1, ?)", -1, 3);
            x.changesNothing("stamp(0, 0)", "stamp(1, 0)", "stamp(0, 1)", "stamp(1, 1)", "stamp(0, 2)", "stamp(1, 2)");
        }
    }

    private static void promise28TheLesserRate() {
        Run x = twoHoards("promise 28, RATES alike", 1, 300, 40).make("week(7007, 9999, 9)");
        x.due("stamp(0, 2)", 0).due("stamp(1, 2)", 0).due("stamp(0, 1)", 300).due("stamp(1, 1)", 40);
        x.make("week(7008, 9999, 9)").due("stamp(0, 2)", 0).due("stamp(1, 2)", 300).due("stamp(0, 1)", 0).due("stamp(1, 1)", 340);
        x.make("week(8007, 9999, 9)").due("stamp(0, 2)", 40).due("stamp(1, 2)", 0).due("stamp(0, 1)", 340).due("stamp(1, 1)", 0);
        x.make("week(1200, 9999, 9)").due("stamp(1, 2)", 300).make("week(200001, 9999, 9)").due("stamp(0, 2)", 40);
    }

    private static void promise28LimitAtMost() {
        Run x = twoHoards("promise 28, LIMIT", 1, 300, 40).make("week(100101, 299, 9)").due("stamp(1, 2)", 299).due("stamp(0, 1)", 1);
        x.make("week(100101, 300, 9)").due("stamp(1, 2)", 300).due("stamp(0, 1)", 0);
        x.make("week(100101, 301, 9)").due("stamp(1, 2)", 300).due("stamp(0, 1)", 0);
        x.make("week(100101, 0, 9)").due("stamp(1, 2)", 0).due("stamp(0, 1)", 300).due("stamp(1, 1)", 40);
        // LIMIT is each PERSON's, not that of all together.
        x.make("person(1, 0)", "hoard(2, 20)", "week(100101, 20, 9)").due("stamp(1, 2)", 40).due("stamp(0, 1)", 280).due("stamp(1, 1)", 80);
    }

    private static void promise28SoManyDaysOrFewer() {
        for (int days = 1; days <= 9; days++) {
            Run x = twoHoards("promise 28, " + days + " DAYS", days, 50, 0);
            x.make("week(100101, 9999, " + (days - 1) + ")").due("stamp(1, 2)", 0).due("stamp(0, 1)", 50);
            x.make("week(100101, 9999, " + days + ")").due("stamp(1, 2)", 50).due("stamp(0, 1)", 0);
        }
        Run x = new Run(due, "promise 28, two EDGES").make("parish(0, 0)", "parish(1, 0)", "parish(90, 0)", "edge(0, 1, 4, 0)");
        x.make("edge(1, 2, 5, 1)", "person(0, 0)", "hoard(0, 50)", "week(100101, 9999, 9)").due("stamp(1, 2)", 50);
        x.make("week(100101, 9999, 8)").due("stamp(1, 2)", 0).make("move(0, 1)").due("stamp(1, 2)", 50);
        x.make("week(100101, 9999, 4)").due("stamp(1, 2)", 0);
        // Each PERSON from its own HOME.
        x.make("person(0, 0)", "hoard(1, 7)", "week(100101, 9999, 5)").due("stamp(1, 2)", 50).make("week(100101, 9999, 9)").due("stamp(1, 2)", 57);
        x.make("move(0, 0)", "move(1, 1)", "week(100101, 9999, 5)").due("stamp(1, 2)", 7);
    }

    private static void promise28SomeParishOfTheOtherSide() {
        Run x = Lands.two(due, "promise 28, no way").make("person(1, 0)", "hoard(0, 50)", "week(100101, 9999, 9)").due("stamp(1, 2)", 0);
        x.make("parish(80, 0)", "edge(0, 2, 9, 0)").due("stamp(1, 2)", 50);
        Run y = new Run(due, "promise 28, no PARISH there").make("parish(50, 0)", "parish(50, 1)", "edge(0, 1, 1, 1)", "person(0, 0)");
        y.make("hoard(0, 50)", "week(100101, 9999, 9)").due("stamp(1, 2)", 0).due("stamp(0, 1)", 50);
        y.make("settle(1, 1)").due("stamp(1, 2)", 50).due("stamp(0, 1)", 0);
        // The HOME's SIDE counts: SIDE 1 has the greater RATE, so that nothing is carried from there.
        y.make("settle(0, 1)", "settle(1, 0)").due("stamp(1, 2)", 0).due("stamp(0, 2)", 0).due("stamp(1, 1)", 50);
    }

    private static void promise28QuotientsAreCutForEach() {
        Run x = Lands.two(due, "promise 28, cut for each").make("person(0, 0)", "person(0, 0)", "person(0, 1)", "week(99099, 0, 0)");
        x.make("hoard(0, 1)", "hoard(1, 1)", "hoard(2, 1)").due("stamp(0, 0)", 0).due("stamp(1, 0)", 0).due("stamp(0, 1)", 2);
        x.make("week(100100, 0, 0)").due("stamp(0, 0)", 2).due("stamp(1, 0)", 1).make("week(199199, 0, 0)").due("stamp(0, 0)", 2);
        x.make("week(200200, 0, 0)").due("stamp(0, 0)", 4).make("hoard(0, 99)", "hoard(1, 101)", "week(150001, 0, 0)");
        x.due("stamp(0, 0)", 148 + 151).due("stamp(1, 0)", 0).make("hoard(2, 100)").due("stamp(1, 0)", 1).make("hoard(2, 199)").due("stamp(1, 0)", 1);
        // What one carries and what another has there are cut by themselves, and so are both parts of one HOARD.
        Run y = twoHoards("promise 28, both parts", 1, 150, 50).make("week(50099, 75, 9)");
        y.due("stamp(0, 0)", 37).due("stamp(1, 0)", 74 + 49).due("stamp(0, 1)", 75).due("stamp(1, 1)", 125);
    }

    private static void promise28NothingThere() {
        Run x = twoHoards("promise 28, HOARDS of 0", 1, 0, 0).make("week(1200, 9999, 9)");
        for (int what = 0; what <= 2; what++) {
            x.due("stamp(0, " + what + ")", 0).due("stamp(1, " + what + ")", 0);
        }
    }

    private static void promise28AllAtTheirMost() {
        Run x = Lands.two(due, "promise 28, 16 PERSONS").make("edge(0, 1, 9, 1)", "week(199200, 9999, 9)").times(16, "person(1, 0)");
        for (int i = 0; i < 16; i++) {
            x.make("hoard(" + i + ", 9999)");
        }
        x.due("stamp(1, 0)", 16 * 19998).due("stamp(1, 1)", 16 * 9999).due("stamp(1, 2)", 16 * 9999).due("stamp(0, 0)", 0).due("stamp(0, 1)", 0);
    }

    // ---- promise 29: wagon

    private static void promise29SideAndParish() {
        new Run(due, "promise 29, empty land").refusedBeside("wagon(0, ?)", -1, 0);
        Run x = Lands.two(due, "promise 29").due("wagon(0, 0)", 0).due("wagon(1, 1)", 1).due("wagon(1, 0)", 2).due("wagon(0, 1)", 3);
        x.refusedBeside("wagon(?, 0)", -1, 2).refusedBeside("wagon(0, ?)", -1, 2).due("count(6)", 4).due("where(3, 0)", 1);
        Lands.some(due, "promise 29").refusedBeside("wagon(?, 0)", -1, 2).refusedBeside("wagon(1, ?)", -1, 3);
        Lands.full(due, "promise 29").refusedBeside("wagon(?, 0)", -1, 2).refusedBeside("wagon(1, ?)", -1, 12);
        new Run(due, "promise 29, the last PARISH").times(12, "parish(1, 1)").due("wagon(0, 11)", 0).due("where(0, 0)", 11)
            .refused("wagon(0, 12)", BEYOND);
    }

    private static void promise29TenAtMost() {
        Run x = Lands.two(due, "promise 29, 10 at most");
        for (int i = 0; i < 10; i++) {
            x.due("count(6)", i).due("wagon(" + i % 2 + ", " + i % 2 + ")", i);
        }
        x.refused("wagon(0, 0)", FULL).refused("wagon(1, 1)", FULL).refused("wagon(2, 0)", BEYOND).refused("wagon(0, 2)", BEYOND);
        x.due("count(6)", 10).due("where(9, 400)", 1).due("home(9)", 1).due("found(4)", 2);
    }

    // ---- promise 30: send

    private static void promise30WagonAndParish() {
        Lands.two(due, "promise 30, no WAGON").refusedBeside("send(?, 0)", -1, 0);
        Lands.two(due, "promise 30").make("wagon(0, 0)").refusedBeside("send(?, 0)", -1, 1).refusedBeside("send(0, ?)", -1, 2)
            .due("send(0, 0)", 0);
        Lands.some(due, "promise 30").refusedBeside("send(?, 0)", -1, 2).refusedBeside("send(0, ?)", -1, 3).due("where(0, 25)", 2);
        Lands.full(due, "promise 30").refusedBeside("send(?, 0)", -1, 10).refusedBeside("send(9, ?)", -1, 12).due("send(9, 2)", 0);
    }

    private static void promise30NoRailsLeadThere() {
        Run x = Lands.two(due, "promise 30, NONE").make("wagon(0, 0)", "edge(0, 1, 1, 0)").refused("send(0, 1)", NONE).due("where(0, 400)", 0);
        x.refused("send(0, 2)", BEYOND).refused("send(1, 1)", BEYOND).make("edge(0, 1, 9, 1)").due("send(0, 1)", 9).due("found(2)", 1);
        Run y = new Run(due, "promise 30, it goes on").make("parish(1, 1)", "parish(2, 2)", "parish(3, 3)", "edge(0, 1, 4, 1)", "wagon(0, 0)");
        y.due("send(0, 1)", 4).make("day(2)").refused("send(0, 2)", NONE).due("where(0, 3)", 0).due("where(0, 4)", 1);
        y.make("day(6)").refused("send(0, 2)", NONE).due("where(0, 6)", 1).due("send(0, 0)", 10);
    }

    private static void promise30ToWhereItIs() {
        Run x = Lands.two(due, "promise 30, to where it is").make("wagon(0, 0)").due("send(0, 0)", 0).make("day(7)").due("send(0, 0)", 7);
        x.make("edge(0, 1, 3, 1)").due("send(0, 1)", 10).due("send(0, 0)", 7).due("where(0, 10)", 0).due("send(0, 1)", 10);
        x.make("day(9)").due("send(0, 0)", 9).due("where(0, 400)", 0).due("send(0, 1)", 12).make("day(12)").due("send(0, 1)", 12);
        x.make("day(400)").due("send(0, 1)", 400).due("where(0, 400)", 1);
    }

    private static void promise30BehindTheLastDay() {
        Run x = Lands.two(due, "promise 30, behind DAY 400").make("edge(0, 1, 9, 1)", "wagon(0, 0)", "day(391)").due("send(0, 1)", 400);
        x.due("where(0, 399)", 0).due("where(0, 400)", 1).make("day(392)").due("send(0, 1)", 401).due("where(0, 400)", 0);
        x.refused("where(0, 401)", BEYOND).make("day(400)").due("send(0, 1)", 409).due("where(0, 400)", 0).due("send(0, 0)", 400);
    }

    private static void promise30LeastParishAtEachStep() {
        // From 0 to 5 in 4 days: by 1 and 4, by 2 and 3, by 1 and 3; the least at the first step is 1, at the second 3.
        Run x = new Run(due, "promise 30, the least PARISH").times(6, "parish(1, 1)");
        x.make("edge(0, 2, 1, 1)", "edge(2, 3, 1, 1)", "edge(3, 5, 2, 1)", "edge(0, 1, 1, 1)", "edge(1, 4, 1, 1)", "edge(4, 5, 2, 1)");
        x.make("wagon(0, 0)").due("send(0, 5)", 4).due("where(0, 1)", 1).due("where(0, 2)", 4).make("edge(1, 3, 1, 1)", "send(0, 5)");
        x.due("where(0, 0)", 0).due("where(0, 1)", 1).due("where(0, 2)", 3).due("where(0, 3)", 3).due("where(0, 4)", 5);
        // The way back from 5: 3 is the least at the first step, then 1.
        x.make("wagon(0, 5)").due("send(1, 0)", 4).due("where(1, 1)", 5).due("where(1, 2)", 3).due("where(1, 3)", 1).due("where(1, 4)", 0);
        // PARISH 0 is the least, wherever its EDGES stand.
        for (String order : new String[] {"0 1 2", "2 1 0", "1 0 2"}) {
            Run three = new Run(due, "promise 30, PARISH 0 of " + order).times(5, "parish(1, 1)");
            for (String over : order.split(" ")) {
                three.make("edge(3, " + over + ", 2, 1)", "edge(" + over + ", 4, 2, 1)");
            }
            three.make("wagon(0, 3)").due("send(0, 4)", 4).due("where(0, 1)", 3).due("where(0, 2)", 0).due("where(0, 4)", 4);
        }
        // An EDGE elsewhere that is as long as the first step doesn't lead on, nor does one of no RAIL.
        Run z = new Run(due, "promise 30, EDGES elsewhere").times(5, "parish(1, 1)").make("edge(0, 2, 1, 1)", "edge(2, 3, 2, 1)");
        z.make("edge(1, 3, 2, 1)", "edge(2, 4, 1, 1)", "edge(0, 1, 1, 0)", "wagon(0, 0)").due("send(0, 3)", 3).due("where(0, 1)", 2);
        // A shorter way by greater PARISHES is taken all the same, and an EDGE that is no RAIL isn't.
        Run y = new Run(due, "promise 30, the fewest days").times(4, "parish(1, 1)").make("edge(0, 3, 1, 1)", "edge(3, 2, 1, 1)");
        y.make("edge(0, 1, 1, 1)", "edge(1, 2, 2, 1)", "edge(0, 2, 1, 0)", "wagon(0, 0)").due("send(0, 2)", 2).due("where(0, 1)", 3);
        y.make("edge(0, 2, 2, 1)").due("where(0, 1)", 3).due("send(0, 2)", 2).due("where(0, 1)", 0).due("where(0, 2)", 2);
    }

    private static void promise30SentAnew() {
        Run x = new Run(due, "promise 30, SENT anew").times(3, "parish(1, 1)").make("edge(0, 1, 5, 1)", "edge(1, 2, 5, 1)", "wagon(0, 0)");
        x.due("send(0, 2)", 10).make("day(4)").due("send(0, 2)", 14).due("where(0, 8)", 0).due("where(0, 9)", 1).due("where(0, 14)", 2);
        x.make("day(9)").due("send(0, 0)", 14).due("where(0, 13)", 1).due("where(0, 14)", 0).make("day(13)").due("send(0, 2)", 18);
        x.make("day(18)").due("send(0, 0)", 28).due("where(0, 22)", 2).due("where(0, 23)", 1).due("where(0, 27)", 1).due("where(0, 28)", 0);
    }

    // ---- promise 31: where

    private static void promise31WagonAndDay() {
        Lands.two(due, "promise 31, no WAGON").refusedBeside("where(?, 0)", -1, 0);
        Run x = Lands.two(due, "promise 31").make("wagon(0, 1)").due("where(0, 0)", 1).due("where(0, 400)", 1);
        x.refusedBeside("where(0, ?)", -1, 401).refusedBeside("where(?, 0)", -1, 1);
        x.make("day(20)").due("where(0, 20)", 1).refused("where(0, 19)", BEYOND).refused("where(0, 0)", BEYOND).due("where(0, 21)", 1);
        x.make("day(400)").due("where(0, 400)", 1).refused("where(0, 399)", BEYOND).refused("where(0, 401)", BEYOND);
        Lands.some(due, "promise 31").refusedBeside("where(0, ?)", 19, 401).refusedBeside("where(?, 20)", -1, 2)
            .changesNothing("where(0, 20)", "where(0, 400)");
        Lands.full(due, "promise 31").refusedBeside("where(?, 0)", -1, 10).refusedBeside("where(9, ?)", -1, 401).due("where(9, 0)", 2);
    }

    private static void promise31OnTheDayOnWhichItComes() {
        Run x = new Run(due, "promise 31, from the day on").times(3, "parish(1, 1)").make("edge(0, 1, 1, 1)", "edge(1, 2, 9, 1)", "day(5)");
        x.make("wagon(0, 0)").due("send(0, 2)", 15).due("where(0, 5)", 0).due("where(0, 6)", 1).due("where(0, 14)", 1).due("where(0, 15)", 2);
        x.due("where(0, 16)", 2).due("where(0, 400)", 2).make("day(15)").due("where(0, 15)", 2).refused("where(0, 14)", BEYOND);
    }

    private static void promise31TheLongestWay() {
        Run x = new Run(due, "promise 31, over 12 PARISHES").times(12, "parish(1, 1)");
        for (int i = 11; i > 0; i--) {
            x.make("edge(" + i + ", " + (i - 1) + ", 9, 1)");
        }
        x.make("wagon(0, 0)", "wagon(0, 11)").due("send(0, 11)", 99).due("send(1, 0)", 99);
        for (int i = 0; i < 12; i++) {
            x.due("where(0, " + 9 * i + ")", i).due("where(1, " + 9 * i + ")", 11 - i).due("where(0, " + (9 * i + 8) + ")", i);
        }
    }

    // ---- promise 32: home

    private static void promise32NoSuchWagon() {
        Lands.two(due, "promise 32, no WAGON").refusedBeside("home(?)", -1, 0);
        Lands.some(due, "promise 32").refusedBeside("home(?)", -1, 2).changesNothing("home(0)", "home(1)");
        Lands.full(due, "promise 32").refusedBeside("home(?)", -1, 10).due("home(9)", 1);
    }

    private static void promise32OnNewYearOrAhead() {
        Run x = Lands.two(due, "promise 32, NEW YEAR").make("edge(0, 1, 9, 1)", "wagon(1, 0)", "wagon(0, 0)").due("home(0)", 1);
        x.make("day(355)").due("home(0)", 1).make("day(356)").due("home(0)", 1).make("day(357)").due("home(0)", 0).due("home(1)", 1);
        x.make("day(364)").due("home(1)", 1).make("day(365)").due("home(1)", 1).due("home(0)", 0);
        x.make("day(366)").due("home(1)", 0).make("day(400)").due("home(1)", 0).due("home(0)", 0);
        // From where it is on the DAY: that it was SENT and will come there doesn't count.
        Run y = Lands.two(due, "promise 32, on its way").make("edge(0, 1, 9, 1)", "wagon(1, 0)", "day(356)", "send(0, 1)").due("home(0)", 1);
        y.make("day(357)").due("home(0)", 0).make("day(364)").due("home(0)", 0).make("day(365)").due("home(0)", 1);
    }

    private static void promise32NearestOfItsSideByRails() {
        Run x = Lands.two(due, "promise 32, no RAILS").make("edge(0, 1, 1, 0)", "wagon(1, 0)", "wagon(0, 0)", "wagon(0, 1)", "wagon(1, 1)");
        x.due("home(0)", 0).due("home(1)", 1).due("home(2)", 0).due("home(3)", 1);
        Run y = new Run(due, "promise 32, the nearest").make("parish(1, 0)", "parish(90, 0)", "parish(91, 0)", "edge(0, 1, 9, 1)");
        y.make("edge(0, 2, 5, 1)", "wagon(1, 0)", "day(360)").due("home(0)", 1).make("day(361)").due("home(0)", 0);
        y.make("parish(50, 0)", "edge(0, 3, 4, 1)").due("home(0)", 0).make("settle(3, 1)").due("home(0)", 1);
        Run z = new Run(due, "promise 32, no PARISH of its SIDE").make("parish(1, 0)", "wagon(1, 0)", "wagon(0, 0)").due("home(0)", 0);
        z.due("home(1)", 1);
        Run w = new Run(due, "promise 32, 99 days").times(11, "parish(1, 0)").make("parish(90, 0)", "wagon(1, 0)");
        for (int i = 0; i < 11; i++) {
            w.make("edge(" + i + ", " + (i + 1) + ", 9, 1)");
        }
        w.make("day(266)").due("home(0)", 1).make("day(267)").due("home(0)", 0);
    }

    // ---- promise 33: day

    private static void promise33DaysAre0To400() {
        Run x = new Run(due, "promise 33").refusedBeside("day(?)", -1, 401).due("day(0)", 0).due("day(1)", 1).due("day(1)", 0);
        x.refusedBeside("day(?)", 0, 401).due("day(399)", 398).refusedBeside("day(?)", 398, 401).due("day(400)", 1).due("day(400)", 0);
        x.refusedBeside("day(?)", 399, 401).due("count(10)", 400);
        new Run(due, "promise 33, at once").due("day(400)", 400).refused("day(0)", BEYOND).due("count(10)", 400);
        Lands.some(due, "promise 33").refusedBeside("day(?)", 19, 401).due("day(20)", 0).due("day(21)", 1);
        Lands.full(due, "promise 33").refusedBeside("day(?)", -1, 401).due("day(0)", 0);
    }
}
