/** The boundary cases of the promises 10 to 19, and of what Terms say of persons and texts. */
public final class PersonsBoundaryTest {
    private static final int BEYOND = Due.BEYOND;
    private static final int NONE = Due.NONE;
    private static final int STATE = Due.STATE;
    private static final int FULL = Due.FULL;
    /** 50 bytes without a fault: as much as THE TAPE holds. */
    private static final String LONGEST = "c1;".repeat(14) + "s12;k77;";

    private static final Due due = new Due();

    private PersonsBoundaryTest() {
    }

    public static void main(String[] args) {
        promise10BirthAndHome();
        promise10SixteenAtMost();
        promise11PersonAndHome();
        promise12MonthsAre0To600();
        promise13SideIsNoneOr0Or1();
        promise13DayOfTheChoice();
        promise14PersonAndBy();
        promise14HouseHasNotProposed();
        promise14NothingIsTold();
        promise14EachGroundByItself();
        promise15SumIs0To100000();
        promise15QuotientsAndHalves();
        promise16BytesAre1To4();
        promise16FiftyBytesAtMost();
        promise16OrderAndSignOfBytes();
        promise17NoSuchHouse();
        promise17TheTapeIsEmptyThen();
        promise17TheEmptyText();
        promise17TheLongestText();
        promise17AsSoonAsBothHoldToIt();
        promise17TextsWithoutFault();
        promise17Faults();
        promise17FaultOfEveryByte();
        promise17FaultyIsNotProposed();
        promise18What();
        promise18LeastAndGreatest();
        promise18TheLastRowHolds();
        promise18SinceWhichDay();
        promise18NotWhatOneHouseHoldsTo();
        promise19OneHasNotProposed();
        promise19WhereOneEnds();
        due.end();
    }

    /** A land with a PERSON born on SIDE 0 whose HOME is on SIDE 1. */
    private static Run withPerson(String name) {
        return Lands.two(due, name).make("person(0, 1)");
    }

    // ---- promise 10: person

    private static void promise10BirthAndHome() {
        new Run(due, "promise 10, empty land").refusedBeside("person(?, 0)", -1, 0).refusedBeside("person(0, ?)", -1, 0);
        Run x = new Run(due, "promise 10").make("parish(10, 0)").due("person(0, 0)", 0);
        x.refusedBeside("person(?, 0)", -1, 1).refusedBeside("person(0, ?)", -1, 1).due("count(3)", 1);
        x.times(11, "parish(90, 0)").due("person(11, 0)", 1).due("person(0, 11)", 2);
        x.refused("person(12, 0)", BEYOND).refused("person(0, 12)", BEYOND).due("whose(1, 2)", 0).due("whose(2, 2)", 1);
        x.enact("pb;").due("whose(0, 2)", 0).due("whose(1, 2)", 1).due("whose(2, 2)", 0);
        Lands.some(due, "promise 10").refusedBeside("person(?, 0)", -1, 3).refusedBeside("person(2, ?)", -1, 3);
        Lands.full(due, "promise 10").refusedBeside("person(?, 0)", -1, 12).refusedBeside("person(11, ?)", -1, 12);
    }

    private static void promise10SixteenAtMost() {
        Run x = Lands.two(due, "promise 10, 16 at most");
        for (int i = 0; i < 16; i++) {
            x.due("count(3)", i).due("person(1, 0)", i);
        }
        x.refused("person(0, 0)", FULL).refused("person(1, 1)", FULL).due("count(3)", 16);
        x.refused("person(2, 0)", BEYOND).refused("person(0, 2)", BEYOND).refused("person(-1, -1)", BEYOND);
        x.due("whose(15, 2)", 0).due("found(4)", 2).due("found(1)", 3);
    }

    // ---- promise 11: move

    private static void promise11PersonAndHome() {
        new Run(due, "promise 11, empty land").refused("move(0, 0)", BEYOND);
        Lands.two(due, "promise 11, no PERSON").refusedBeside("move(?, 0)", -1, 0);
        Run x = withPerson("promise 11");
        x.refusedBeside("move(?, 0)", -1, 1).refusedBeside("move(0, ?)", -1, 2).due("move(0, 0)", 1).due("move(0, 0)", 0);
        x.due("move(0, 1)", 0).due("whose(0, 2)", 1);
        Run some = Lands.some(due, "promise 11").refusedBeside("move(?, 0)", -1, 3).refusedBeside("move(2, ?)", -1, 3);
        some.due("move(2, 2)", 1).due("move(2, 0)", 2);
        Run full = Lands.full(due, "promise 11").refusedBeside("move(?, 0)", -1, 16).refusedBeside("move(15, ?)", -1, 12);
        full.due("move(15, 11)", 0).due("move(15, 0)", 11);
    }

    // ---- promise 12: work

    private static void promise12MonthsAre0To600() {
        Lands.two(due, "promise 12, no PERSON").refusedBeside("work(?, 0, 0)", -1, 0);
        Run x = withPerson("promise 12, 0 at first").enact("pw;").due("whose(0, 2)", NONE).due("pension(0, 100, 0)", 50);
        x.due("work(0, 600, 0)", 1).due("whose(0, 2)", 0).due("pension(0, 100, 0)", 100);
        x.due("work(0, 0, 600)", 1).due("whose(0, 2)", 1).due("pension(0, 100, 0)", 0);
        x.due("work(0, 600, 600)", 1).due("whose(0, 2)", NONE).due("pension(0, 100, 0)", 50);
        x.due("work(0, 600, 599)", 1).due("whose(0, 2)", 0).due("work(0, 599, 600)", 1).due("whose(0, 2)", 1);
        x.refusedBeside("work(0, ?, 0)", -1, 601).refusedBeside("work(0, 0, ?)", -1, 601).refusedBeside("work(?, 0, 0)", -1, 1);
        x.due("pension(0, 1199, 0)", 599).due("work(0, 0, 0)", 1).due("pension(0, 1199, 0)", 599).due("pension(0, 1199, 1)", 600);
        x.make("person(0, 0)", "work(1, 3, 1)").due("whose(1, 2)", 0).due("pension(1, 8, 0)", 6).make("work(1, 1, 3)").due("whose(1, 2)", 1);
        x.due("pension(1, 8, 0)", 2).make("work(0, 7, 0)", "work(1, 4, 4)").due("whose(1, 2)", NONE).due("whose(0, 2)", 0).due("pension(1, 8, 1)", 4);
        x.make("work(0, 0, 7)", "work(1, 6, 5)").due("whose(1, 2)", 0).due("whose(0, 2)", 1);
        Lands.some(due, "promise 12").refusedBeside("work(0, ?, 600)", -1, 601).refusedBeside("work(0, 600, ?)", -1, 601)
            .refusedBeside("work(?, 1, 1)", -1, 3).due("pension(0, 8, 0)", 5);
        Lands.full(due, "promise 12").refusedBeside("work(?, 1, 1)", -1, 16).due("work(15, 600, 0)", 1).due("pension(15, 9, 0)", 9);
    }

    // ---- promise 13: choose

    private static void promise13SideIsNoneOr0Or1() {
        Lands.two(due, "promise 13, no PERSON").refusedBeside("choose(?, 0)", -1, 0);
        Run x = withPerson("promise 13").enact("pc;").due("whose(0, 2)", NONE).due("choose(0, -1)", -1).due("whose(0, 2)", NONE);
        x.due("choose(0, 0)", -1).due("whose(0, 2)", 0).due("choose(0, 1)", 0).due("whose(0, 2)", 1);
        x.refusedBeside("choose(0, ?)", -2, 2).refusedBeside("choose(?, 0)", -1, 1).due("whose(0, 2)", 1);
        x.due("choose(0, 1)", 1).due("choose(0, -1)", 1).due("whose(0, 2)", NONE).due("choose(0, -1)", -1);
        Lands.some(due, "promise 13").refusedBeside("choose(0, ?)", -2, 2).refusedBeside("choose(?, 1)", -1, 3).due("choose(0, 0)", 0);
        Lands.full(due, "promise 13").refusedBeside("choose(?, 1)", -1, 16).due("choose(15, 1)", -1).due("choose(15, 1)", 1);
    }

    private static void promise13DayOfTheChoice() {
        Run x = withPerson("promise 13, DAY 0 and k 0").enact("pc;k0;").make("choose(0, 1)").due("whose(0, 2)", 1);
        x.make("day(1)").due("whose(0, 2)", 1).refused("choose(0, 2)", BEYOND).due("whose(0, 2)", 1);
        x.due("choose(0, 1)", 1).due("whose(0, 2)", NONE).due("choose(0, 0)", 1).due("whose(0, 2)", NONE);
        // Each PERSON's CHOICE has its own DAY.
        x.make("person(0, 0)", "person(0, 0)").due("whose(1, 2)", NONE).make("choose(2, 0)").due("whose(2, 2)", NONE);
        Run w = withPerson("promise 13, of two PERSONS").make("person(0, 0)", "choose(0, 1)", "day(9)", "choose(1, 1)").enact("pc;k8;");
        w.due("whose(0, 2)", 1).due("whose(1, 2)", NONE).make("choose(0, 0)").due("whose(0, 2)", NONE);
        Run y = withPerson("promise 13, DAY 10").make("day(10)", "choose(0, 0)");
        y.propose(0, "pc;k9;", 0).due("whose(0, 0)", NONE).propose(0, "pc;k10;", 0).due("whose(0, 0)", 0);
        y.propose(0, "pc;k11;", 0).due("whose(0, 0)", 0).propose(0, "pc;k009;", 0).due("whose(0, 0)", NONE);
        Run z = withPerson("promise 13, DAY 400").make("day(400)", "choose(0, 0)");
        z.propose(0, "pc;", 0).due("whose(0, 0)", 0).propose(0, "pc;k400;", 0).due("whose(0, 0)", 0);
        z.propose(0, "pc;k399;", 0).due("whose(0, 0)", NONE).propose(0, "pc;k999;", 0).due("whose(0, 0)", 0);
        z.propose(0, "pcb;k399;", 0).due("whose(0, 0)", 0).propose(0, "pch;k399;", 0).due("whose(0, 0)", 1);
    }

    // ---- promise 14: whose

    private static void promise14PersonAndBy() {
        Lands.two(due, "promise 14, no PERSON").refusedBeside("whose(?, 2)", -1, 0);
        Run x = withPerson("promise 14").propose(0, "pb;", 0).propose(1, "ph;", 0);
        x.due("whose(0, 0)", 0).due("whose(0, 1)", 1).due("whose(0, 2)", 1);
        x.refusedBeside("whose(0, ?)", -1, 3).refusedBeside("whose(?, 0)", -1, 1).refusedBeside("whose(?, 2)", -1, 1);
        Run some = Lands.some(due, "promise 14").refusedBeside("whose(?, 1)", -1, 3).refusedBeside("whose(2, ?)", -1, 3);
        some.changesNothing("whose(0, 0)", "whose(0, 1)", "whose(0, 2)");
        Lands.full(due, "promise 14").refusedBeside("whose(?, 2)", -1, 16).due("whose(15, 2)", 0).due("whose(14, 2)", 0);
    }

    private static void promise14HouseHasNotProposed() {
        Run x = withPerson("promise 14, STATE");
        x.refused("whose(0, 0)", STATE).refused("whose(0, 1)", STATE).refused("whose(1, 0)", BEYOND).refused("whose(-1, 1)", BEYOND);
        x.propose(1, "pw;", 0).refused("whose(0, 0)", STATE).refused("whose(0, 1)", NONE).refused("whose(1, 1)", BEYOND);
        x.propose(0, "c1", -12).refused("whose(0, 0)", STATE).propose(0, "", 1).due("whose(0, 0)", 1);
        Run y = withPerson("promise 14, STATE of HOUSE 1").propose(0, "", 1).due("whose(0, 0)", 1).refused("whose(0, 1)", STATE);
        y.due("found(3)", 1).due("found(2)", 0);
    }

    private static void promise14NothingIsTold() {
        Run x = withPerson("promise 14, NONE").enact("pcw;").refused("whose(0, 2)", NONE).refused("whose(0, 0)", NONE);
        x.make("work(0, 3, 3)").refused("whose(0, 2)", NONE).make("work(0, 3, 4)").due("whose(0, 2)", 1);
        x.make("choose(0, 0)").due("whose(0, 2)", 0).make("choose(0, -1)").due("whose(0, 2)", 1);
        x.make("work(0, 4, 3)").due("whose(0, 2)", 0).due("count(13)", 0).make("work(0, 600, 600)").due("count(13)", 1);
    }

    private static void promise14EachGroundByItself() {
        // Of BIRTH on SIDE 0 and HOME on SIDE 1: the first ground that tells something is told.
        Run x = withPerson("promise 14, grounds");
        x.propose(0, "phbcw;", 0).due("whose(0, 0)", 1).propose(0, "pbhcw;", 0).due("whose(0, 0)", 0);
        x.propose(0, "pcwhb;", 0).due("whose(0, 0)", 1).propose(0, "pwcbh;", 0).due("whose(0, 0)", 0);
        x.make("work(0, 0, 1)").propose(0, "pwcbh;", 0).due("whose(0, 0)", 1).propose(0, "pcwbh;", 0).due("whose(0, 0)", 1);
        x.make("choose(0, 0)").due("whose(0, 0)", 0).propose(0, "pwcbh;", 0).due("whose(0, 0)", 1);
        x.propose(0, "pc;", 0).due("whose(0, 0)", 0).propose(0, "", 1).due("whose(0, 0)", 1);
    }

    // ---- promise 15: pension

    private static void promise15SumIs0To100000() {
        Lands.two(due, "promise 15, no PERSON").refusedBeside("pension(?, 0, 0)", -1, 0);
        Run x = withPerson("promise 15").due("pension(0, 0, 0)", 0).due("pension(0, 0, 1)", 0);
        x.due("pension(0, 100000, 0)", 50000).due("pension(0, 100000, 1)", 50000);
        x.refusedBeside("pension(0, ?, 0)", -1, 100001).refusedBeside("pension(0, ?, 1)", -1, 100001);
        x.refusedBeside("pension(0, 1, ?)", -1, 2).refusedBeside("pension(?, 1, 0)", -1, 1);
        Lands.some(due, "promise 15").refusedBeside("pension(?, 1, 1)", -1, 3).refusedBeside("pension(2, ?, 1)", -1, 100001)
            .changesNothing("pension(0, 100000, 0)");
        Lands.full(due, "promise 15").refusedBeside("pension(?, 1, 1)", -1, 16).due("pension(15, 3, 1)", 2);
    }

    private static void promise15QuotientsAndHalves() {
        Run x = withPerson("promise 15, halves").due("pension(0, 1, 0)", 0).due("pension(0, 1, 1)", 1);
        x.due("pension(0, 2, 0)", 1).due("pension(0, 2, 1)", 1).due("pension(0, 99999, 0)", 49999).due("pension(0, 99999, 1)", 50000);
        x.make("work(0, 1, 600)").due("pension(0, 100000, 0)", 166).due("pension(0, 100000, 1)", 99834);
        x.due("pension(0, 600, 0)", 0).due("pension(0, 601, 0)", 1).due("pension(0, 600, 1)", 600);
        x.make("work(0, 600, 1)").due("pension(0, 100000, 0)", 99833).due("pension(0, 100000, 1)", 167).due("pension(0, 1, 0)", 0);
        x.make("work(0, 600, 0)").due("pension(0, 100000, 0)", 100000).due("pension(0, 100000, 1)", 0);
        x.make("work(0, 0, 1)").due("pension(0, 100000, 0)", 0).due("pension(0, 1, 1)", 1);
        x.make("work(0, 1, 1)").due("pension(0, 1, 0)", 0).due("pension(0, 1, 1)", 1);
    }

    // ---- promise 16: feed

    private static void promise16BytesAre1To4() {
        for (Run x : Lands.all(due, "promise 16")) {
            x.refusedBeside("feed(99, ?)", 0, 5).refused("feed(0, -1)", BEYOND);
        }
        new Run(due, "promise 16").due("feed(0, 1)", 1).due("feed(0, 4)", 5).due("feed(0, 2)", 7).due("feed(0, 3)", 10).due("count(9)", 10);
    }

    private static void promise16FiftyBytesAtMost() {
        for (int n = 1; n <= 4; n++) {
            Run fits = new Run(due, "promise 16, to 50").feed("c".repeat(50 - n)).due("feed(0, " + n + ")", 50).due("count(9)", 50);
            fits.refused("feed(0, 1)", FULL).refused("feed(0, 4)", FULL).refused("feed(0, 0)", BEYOND).refused("feed(0, 5)", BEYOND);
            Run beyond = new Run(due, "promise 16, to 51").feed("c".repeat(51 - n)).refused("feed(0, " + n + ")", FULL);
            beyond.due("count(9)", 51 - n);
            if (n > 1) {
                beyond.due("feed(0, " + (n - 1) + ")", 50);
            }
        }
        Run x = new Run(due, "promise 16, nothing of what is refused comes to it").feed(LONGEST.substring(0, 48));
        x.refused("feed(2021161080, 4)", FULL).feed(LONGEST.substring(48)).due("propose(0)", 0);
        Run full = Lands.full(due, "promise 16").refused("feed(0, 1)", FULL).due("propose(0)", 0).due("feed(0, 4)", 4);
        full.due("found(4)", 1);
    }

    private static void promise16OrderAndSignOfBytes() {
        // 's', '7', '1', ';' as one word; then above each lower part bytes that don't count.
        new Run(due, "promise 16, the highest first").make("feed(" + 0x7337313b + ", 4)").due("propose(0)", 0).due("count(9)", 0);
        Run x = new Run(due, "promise 16, lowest bytes alone").make("feed(" + 0xff733731 + ", 3)").due("feed(" + 0x8000003b + ", 1)", 4);
        x.make("propose(0)", "feed(" + 0x12347337 + ", 2)", "feed(" + 0x7fff313b + ", 2)").due("propose(1)", 1).due("law(1)", 71);
        // Bytes above 127 are bytes of their own, not below 0 nor like those of 7 bits.
        new Run(due, "promise 16, bytes above 127").make("feed(" + 0xf33731bb + ", 4)").due("propose(0)", -10);
        new Run(due, "promise 16, the last byte").make("feed(" + 0x733731bb + ", 4)").due("propose(0)", -13);
        new Run(due, "promise 16, byte 0").make("feed(0, 1)").due("propose(0)", -10);
        new Run(due, "promise 16, byte 255").make("feed(-1, 1)").due("propose(0)", -10);
    }

    // ---- promise 17: propose

    private static void promise17NoSuchHouse() {
        for (Run x : Lands.all(due, "promise 17")) {
            x.refusedBeside("propose(?)", -1, 2);
        }
        Run x = new Run(due, "promise 17, THE TAPE stays").feed("c3;").refused("propose(2)", BEYOND).refused("propose(-1)", BEYOND);
        x.due("count(9)", 3).due("propose(0)", 0).due("count(9)", 0);
        Run y = new Run(due, "promise 17, a faulty one stays, too").feed("x").refused("propose(2)", BEYOND).due("count(9)", 1);
        y.due("propose(1)", -10).due("found(1)", 1);
    }

    private static void promise17TheTapeIsEmptyThen() {
        Run x = new Run(due, "promise 17, THE TAPE is empty then").feed("c3;").due("propose(0)", 0).due("count(9)", 0);
        x.due("propose(1)", 1).due("differ()", 0).feed("c3").due("propose(1)", -12).due("count(9)", 0).due("differ()", 0);
        x.feed(";").due("propose(1)", -10).feed(LONGEST).due("count(9)", 50).due("propose(1)", 0).due("feed(0, 4)", 4);
    }

    private static void promise17TheEmptyText() {
        new Run(due, "promise 17, the empty text of HOUSE 0").due("propose(0)", 1).due("propose(0)", 1);
        new Run(due, "promise 17, the empty text of HOUSE 1").due("propose(1)", 1);
        Run x = new Run(due, "promise 17, the empty text isn't THE LAW").enact("c3;").due("propose(0)", 0).due("law(3)", 3);
        x.due("propose(1)", 1).due("law(3)", 9);
    }

    private static void promise17TheLongestText() {
        Run x = new Run(due, "promise 17, 50 bytes").propose(0, LONGEST, 0).propose(1, LONGEST, 1).due("law(0)", 77).due("law(1)", 12);
        x.propose(1, LONGEST.substring(0, 49), -59).propose(1, LONGEST.substring(0, 49) + "x", -59);
        x.propose(1, LONGEST.substring(0, 49) + "8", -60);
        x.propose(1, LONGEST.substring(0, 46) + "k777", -60).propose(1, "c1;".repeat(16) + "dl", -60);
        x.propose(1, "c1;".repeat(16) + "d;", -59).propose(1, "c1;".repeat(16) + ";;", -58).due("differ()", -1);
        x.propose(1, "k1;".repeat(16), 0).due("differ()", 0);
    }

    private static void promise17AsSoonAsBothHoldToIt() {
        Run x = new Run(due, "promise 17, both").propose(0, "c3;", 0).due("law(3)", 9).propose(0, "c4;", 0).propose(1, "c3;", 0);
        x.due("law(3)", 9).propose(1, "c4;", 1).due("law(3)", 4).propose(0, "c5;", 0).due("law(3)", 4);
        x.propose(1, "c4;", 1).propose(0, "c4;c4;", 0).propose(1, "c4;", 1).propose(1, "c4;c4;", 1).propose(0, "c4;", 0).due("law(3)", 4);
        x.propose(1, "", 0).due("law(3)", 4).propose(0, "", 1).due("law(3)", 9);
    }

    private static void promise17TextsWithoutFault() {
        String[] right = {"pc;", "ph;", "pb;", "pw;", "pchbw;", "pwbhc;", "pbh;", "k0;", "k9;", "k00;", "k99;", "k000;", "k999;", "k400;",
            "k401;", "s00;", "s99;", "s09;", "dl;", "ds;", "c0;", "c9;", "u00;", "u09;", "u10;", "u19;", "u20;", "u24;",
            "c1;c1;c1;", "u00;c0;ds;s00;k0;pc;"};
        for (String text : right) {
            new Run(due, "promise 17, without FAULT").propose(0, text, 0).propose(1, text, 1);
        }
    }

    private static void promise17Faults() {
        // What stands before the bar is how a text may begin; with the byte behind it none begins so.
        String[] marked = {"|;", "|P", "|h", "|b", "|w", "|l", "|0", "| ", "|o", "|q", "|j", "|r", "|t", "|v", "|e",
            "p|;", "p|p", "p|s", "p|a", "p|x", "p|0", "p|C", "pc|c;", "pch|h;", "pchb|b;", "pchbw|w;", "pchbw|c;", "pchbw|p", "pch|,",
            "k|;", "k|k", "k|/", "k|:", "k0|/", "k0|:", "k00|:", "k000|0;", "k999|9", "k000|:", "k|-1;", "k| 1",
            "s|;", "s|/0;", "s|:0;", "s0|;", "s0|/", "s0|:", "s00|0;", "s00|:", "s99|s",
            "d|;", "d|d", "d|k;", "d|m;", "d|r;", "d|t;", "d|L;", "dl|l;", "dl|s;", "ds|:", "ds|l",
            "c|;", "c|/", "c|:", "c0|0;", "c9|9;", "c0|:", "c|c",
            "u|;", "u|/0;", "u|30;", "u|90;", "u|:0;", "u2|5;", "u2|9;", "u2|:", "u2|/", "u1|:;", "u1|/", "u1|;", "u0|;", "u24|4;", "u24|:",
            "c1;|;", "c1;|C", "c1;c|;", "pc;pc|c", "s50;u2|5;"};
        for (String one : marked) {
            int fault = one.indexOf('|');
            String text = one.replace("|", "");
            new Run(due, "promise 17, FAULT of " + one).faulty(0, text, fault).faulty(1, text, fault);
        }
        String[] early = {"p", "pc", "pchb", "pchbw", "k", "k0", "k00", "k000", "s", "s0", "s00", "d", "dl", "ds", "c", "c0", "u", "u0", "u2",
            "u00", "u24", "c1;p", "c1;c1", "k1;k"};
        for (String text : early) {
            new Run(due, "promise 17, " + text + " ends too early").faulty(1, text, text.length());
        }
    }

    /** Each of the 256 bytes at each place at which a ROW may go on: it is the FAULT, or the text ends too early. */
    private static void promise17FaultOfEveryByte() {
        everyByte("", "pksdcu");
        everyByte("p", "chbw");
        everyByte("pch", "bw;");
        everyByte("pchbw", ";");
        everyByte("k", "0123456789");
        everyByte("k40", "0123456789;");
        everyByte("k400", ";");
        everyByte("s", "0123456789");
        everyByte("s0", "0123456789");
        everyByte("s00", ";");
        everyByte("d", "ls");
        everyByte("dl", ";");
        everyByte("c", "0123456789");
        everyByte("c0", ";");
        everyByte("u", "012");
        everyByte("u0", "0123456789");
        everyByte("u1", "0123456789");
        everyByte("u2", "01234");
        everyByte("u24", ";");
        everyByte("c1;", "pksdcu");
    }

    private static void everyByte(String begun, String right) {
        for (int one = 0; one <= 255; one++) {
            String text = begun + (char) one;
            int want = -10 - (right.indexOf(one) < 0 ? begun.length() : text.length());
            if (one == ';' && right.indexOf(';') >= 0) {
                want = 0;
            }
            new Run(due, "promise 17, byte " + one + " behind '" + begun + "'").propose(0, text, want);
        }
    }

    private static void promise17FaultyIsNotProposed() {
        Run x = withPerson("promise 17, a FAULT").faulty(0, "c3", 2).refused("whose(0, 0)", STATE).refused("differ()", STATE);
        x.propose(0, "pb;", 0).faulty(0, "ph;x", 3).due("whose(0, 0)", 0).faulty(1, "pb;;", 3).refused("whose(0, 1)", STATE);
        x.propose(1, "pb;", 1).make("day(5)").faulty(1, "c3;s", 4).due("law(3)", 9).due("law(5)", 1).due("law(6)", 0).due("differ()", -1);
        x.due("found(1)", 0).faulty(0, "k7;c", 4).due("law(0)", 400).due("whose(0, 2)", 0);
    }

    // ---- promise 18: law

    private static void promise18What() {
        for (Run x : Lands.all(due, "promise 18")) {
            x.refusedBeside("law(?)", -1, 7);
            x.changesNothing("law(0)", "law(1)", "law(2)", "law(3)", "law(4)", "law(5)", "law(6)");
        }
    }

    private static void lawIs(String text, int... want) {
        Run x = new Run(due, "promise 18, " + text).enact(text);
        for (int what = 0; what < want.length; what++) {
            x.due("law(" + what + ")", want[what]);
        }
    }

    private static void promise18LeastAndGreatest() {
        lawIs("", 400, 50, 0, 9, 12, 2, 0);
        // Without a ROW of a letter, though the text before it had one.
        Run x = new Run(due, "promise 18, without a ROW").enact("k0;s00;dl;c0;u00;pc;").enact("k1;");
        x.due("law(0)", 1).due("law(1)", 50).due("law(2)", 0).due("law(3)", 9).due("law(4)", 12).due("law(5)", 2).enact("c1;").due("law(0)", 400);
        lawIs("k0;s00;ds;c0;u00;pc;", 0, 0, 0, 0, 0, 1, 0);
        lawIs("k999;s99;dl;c9;u24;pchbw;", 999, 99, 1, 9, 24, 4, 0);
        lawIs("k000;s01;u01;c1;pbw;", 0, 1, 0, 1, 1, 2, 0);
        lawIs("k007;s10;u10;c5;phcw;", 7, 10, 0, 5, 10, 3, 0);
        lawIs("k7;", 7, 50, 0, 9, 12, 2, 0);
        lawIs("k70;", 70, 50, 0, 9, 12, 2, 0);
        lawIs("k010;", 10, 50, 0, 9, 12, 2, 0);
        lawIs("k077;", 77, 50, 0, 9, 12, 2, 0);
        lawIs("k100;", 100, 50, 0, 9, 12, 2, 0);
        lawIs("s70;", 400, 70, 0, 9, 12, 2, 0);
        lawIs("dl;", 400, 50, 1, 9, 12, 2, 0);
        lawIs("c8;", 400, 50, 0, 8, 12, 2, 0);
        lawIs("u23;", 400, 50, 0, 9, 23, 2, 0);
        lawIs("pw;", 400, 50, 0, 9, 12, 1, 0);
    }

    private static void promise18TheLastRowHolds() {
        lawIs("k1;k22;k3;", 3, 50, 0, 9, 12, 2, 0);
        lawIs("s11;s22;", 400, 22, 0, 9, 12, 2, 0);
        lawIs("dl;ds;", 400, 50, 0, 9, 12, 2, 0);
        lawIs("ds;dl;", 400, 50, 1, 9, 12, 2, 0);
        lawIs("c1;c2;", 400, 50, 0, 2, 12, 2, 0);
        lawIs("u24;u00;", 400, 50, 0, 9, 0, 2, 0);
        lawIs("pchbw;pc;", 400, 50, 0, 9, 12, 1, 0);
        Run x = withPerson("promise 18, grounds of the last ROW").enact("pch;pb;").due("whose(0, 2)", 0).enact("pb;ph;").due("whose(0, 2)", 1);
        x.make("choose(0, 0)").enact("pc;ph;").due("whose(0, 2)", 1).enact("phbcw;pcb;").due("whose(0, 2)", 0);
    }

    private static void promise18SinceWhichDay() {
        Run x = new Run(due, "promise 18, since which DAY").enact("c3;").due("law(6)", 0).make("day(7)").due("law(6)", 0);
        x.propose(0, "c4;", 0).due("law(6)", 0).make("day(9)").propose(1, "c4;", 1).due("law(6)", 9).make("day(11)").due("law(6)", 9);
        // Both hold to the same text all the time, or come back to it with no other one between.
        x.propose(1, "c4;", 1).due("law(6)", 9).propose(0, "c5;", 0).propose(0, "c4;", 1).due("law(6)", 9).due("law(3)", 4);
        x.make("day(400)").enact("").due("law(6)", 400).due("law(3)", 9);
        Run y = new Run(due, "promise 18, the empty text is THE LAW since DAY 0").make("day(5)").enact("").due("law(6)", 0);
        y.make("day(6)").enact("c9;").due("law(6)", 6).due("law(3)", 9);
    }

    private static void promise18NotWhatOneHouseHoldsTo() {
        String text = "k10;s20;dl;c3;u04;pchb;";
        Run x = new Run(due, "promise 18, what one HOUSE holds to").enact(text);
        for (int house = 0; house <= 1; house++) {
            x.propose(house, "u05;", 0).due("law(0)", 10).due("law(1)", 20).due("law(2)", 1).due("law(3)", 3).due("law(4)", 4).due("law(5)", 3);
            x.propose(house, text, 1);
        }
        Run y = new Run(due, "promise 18, what one HOUSE proposed first").propose(1, text, 0);
        y.due("law(0)", 400).due("law(1)", 50).due("law(2)", 0).due("law(3)", 9).due("law(4)", 12).due("law(5)", 2);
        y.propose(1, "", 1).propose(0, text, 0);
        y.due("law(0)", 400).due("law(1)", 50).due("law(2)", 0).due("law(3)", 9).due("law(4)", 12).due("law(5)", 2);
    }

    // ---- promise 19: differ

    private static void promise19OneHasNotProposed() {
        new Run(due, "promise 19").refused("differ()", STATE).propose(0, "", 1).refused("differ()", STATE).propose(1, "", 1)
            .due("differ()", -1);
        new Run(due, "promise 19").propose(1, "c1;", 0).refused("differ()", STATE).propose(0, "c", -11).refused("differ()", STATE);
        Lands.some(due, "promise 19").due("differ()", 1).changesNothing("differ()");
        Lands.full(due, "promise 19").refused("differ()", STATE);
    }

    private static void promise19WhereOneEnds() {
        Run x = new Run(due, "promise 19, where one ends").propose(0, "", 1).propose(1, "c1;", 0).due("differ()", 0);
        x.propose(0, "c1;", 1).due("differ()", -1).propose(0, "c1;c1;", 0).due("differ()", 3).propose(1, "c1;c1;c1;", 0).due("differ()", 6);
        x.propose(1, "", 0).due("differ()", 0).propose(0, "", 1).due("differ()", -1);
        Run y = new Run(due, "promise 19, 50 bytes").propose(0, LONGEST, 0).propose(1, LONGEST.substring(0, 46), 0).due("differ()", 46);
        y.propose(1, LONGEST, 1).due("differ()", -1).propose(1, LONGEST.replace("k77", "k78"), 0).due("differ()", 48);
        y.propose(1, "k" + LONGEST.substring(1), 0).due("differ()", 0).propose(1, "c2" + LONGEST.substring(2), 0).due("differ()", 1);
        // Bytes of earlier, longer texts don't count.
        y.propose(0, "c1;", 0).propose(1, "c1;", 1).due("differ()", -1);
    }
}
