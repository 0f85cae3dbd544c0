/**
 * What each act changes, and that it changes nothing else that can be seen; what only tells changes nothing. Every
 * act is asked in a land with some of everything (see Lands.some), where each change would show.
 */
public final class ChangesTest {
    private static final int BEYOND = Due.BEYOND;
    private static final int NONE = Due.NONE;
    private static final int STATE = Due.STATE;
    private static final int KIND = Due.KIND;

    private static final Due due = new Due();

    private ChangesTest() {
    }

    public static void main(String[] args) {
        promise2Parish();
        promise3Edge();
        promise4Peg();
        promise5Settle();
        promise6Seat();
        promise10Person();
        promise11Move();
        promise12Work();
        promise13Choose();
        promise16Feed();
        promise17Propose();
        promise17ProposeTheLaw();
        promise20Thing();
        promise22Tie();
        promise23Part();
        promise26Hoard();
        promise27Week();
        promise29Wagon();
        promise30Send();
        promise33Day();
        promise34Open();
        promise35Copy();
        promise38Task();
        promise39Ahead();
        promise41Tell();
        promise42Check();
        promises7To44WhatOnlyTells();
        promises2To42OnTheLastDay();
        due.end();
    }

    /** CASE 2 WAITS for PAPER 4; WAGON 2 is in PARISH 3, from which no EDGE leads. */
    private static Run some(String name) {
        return Lands.some(due, name + ", what it changes").make("open(0, 1, 3, 4)", "parish(60, 90)", "wagon(1, 3)");
    }

    private static void promise2Parish() {
        some("promise 2").changes("parish(20, 5)", 4, "count(0) = 5", "count(12) = 2", "side(4) = 0", "enclave(4) = 1", "settle(4, 0) = 0",
            "far(4, 0, 0) = " + NONE, "far(4, 0, 1) = " + NONE, "far(4, 1, 0) = " + NONE, "far(4, 1, 1) = " + NONE,
            "far(4, 2, 0) = " + NONE, "far(4, 2, 1) = " + NONE, "far(4, 3, 0) = " + NONE, "far(4, 3, 1) = " + NONE);
    }

    private static void promise3Edge() {
        // WAGON 0, which is on its way to 2, goes on as it was SENT.
        some("promise 3").changes("edge(1, 2, 1, 1)", 4, "count(1) = 4", "far(2, 0, 0) = 4", "far(2, 0, 1) = 4", "far(2, 1, 0) = 1",
            "far(2, 1, 1) = 1");
    }

    private static void promise4Peg() {
        some("promise 4").changes("peg(99, 70)", 3, "count(2) = 3", "peg(50, 99) = 4", "side(3) = 0", "home(2) = 0");
        // THE LINE goes from x 50 to x 90, so that PARISH 1 is SETTLED for SIDE 0 and no ENCLAVE any more.
        Lands.two(due, "promise 4, what it changes").make("edge(0, 1, 9, 0)").changes("peg(90, 70)", 1, "count(2) = 1", "count(12) = 0",
            "side(1) = 0", "enclave(1) = 0", "peg(50, 1) = " + BEYOND, "peg(50, 50) = " + BEYOND, "peg(50, 99) = 2");
    }

    private static void promise5Settle() {
        some("promise 5").changes("settle(2, 0)", 1, "side(2) = 0", "settle(2, 0) = 0", "whose(1, 1) = 0");
        some("promise 5").changes("settle(0, 1)", 0, "settle(0, 0) = 1");
    }

    private static void promise6Seat() {
        some("promise 6").changes("seat(0, 1)", 0, "seat(0, 0) = 1", "enclave(0) = 1", "count(12) = 2");
        some("promise 6").changes("seat(1, 2)", 1, "seat(1, 0) = 2");
    }

    private static void promise10Person() {
        some("promise 10").changes("person(2, 0)", 3, "count(3) = 4", "count(13) = 2", "whose(3, 0) = " + NONE, "whose(3, 1) = 1",
            "whose(3, 2) = " + NONE, "whose(3, 2) by CHOICES of before = " + NONE, "pension(3, 100000, 0) = 50000", "choose(3, -1) = -1",
            "move(3, 0) = 0", "hoard(3, 0) = 0");
    }

    private static void promise11Move() {
        some("promise 11").changes("move(0, 0)", 1, "move(0, 0) = 0", "stamp(0, 0) = 450", "stamp(0, 1) = 450", "stamp(1, 0) = 144",
            "stamp(1, 1) = 120", "stamp(1, 2) = 120");
        some("promise 11").changes("move(1, 1)", 0, "move(1, 0) = 1", "stamp(0, 0) = 0", "stamp(0, 1) = 0", "stamp(1, 0) = 684",
            "stamp(1, 1) = 570", "stamp(1, 2) = 0");
    }

    private static void promise12Work() {
        some("promise 12").changes("work(0, 1, 5)", 1, "whose(0, 0) = 1", "whose(0, 2) = 1", "pension(0, 100000, 0) = 16666", "court(0) = 1",
            "waits(0) = 4", "check() = 1");
        some("promise 12").changes("work(2, 4, 6)", 1, "whose(2, 0) = 1", "whose(2, 2) = 1", "pension(2, 100000, 0) = 40000", "count(13) = 0");
    }

    private static void promise13Choose() {
        // It is told on DAY 20, above k 10.
        some("promise 13").changes("choose(1, 0)", 1, "choose(1, -1) = 0", "whose(1, 0) = " + NONE, "whose(1, 2) = " + NONE,
            "whose(1, 2) by CHOICES of before = " + NONE, "count(13) = 2", "check() = 2", "court(2) = 0", "waits(2) = " + NONE);
        some("promise 13").changes("choose(0, -1)", 0, "choose(0, -1) = -1");
    }

    private static void promise16Feed() {
        some("promise 16").changes("feed(59, 1)", 3, "count(9) = 3", "THE TAPE for HOUSE 0 = 0", "differ() then = 0");
    }

    private static void promise17Propose() {
        // HOUSE 1 held to "pb;", and holds to "c3;" then; HOUSE 0 and THE LAW stay.
        some("promise 17").feed(";").changes("propose(1)", 0, "count(9) = 0", "differ() = 0", "whose(0, 1) = 1", "whose(1, 1) = 0");
        // HOUSE 0 held to the text that is THE LAW, which stays.
        some("promise 17").feed(";").changes("propose(0)", 0, "count(9) = 0", "differ() = 0", "whose(0, 0) = 1", "whose(1, 0) = 0",
            "whose(2, 0) = 1");
        some("promise 17, faulty").changes("propose(0)", -12, "count(9) = 0", "THE TAPE for HOUSE 0 = 0", "differ() then = 0");
    }

    private static void promise17ProposeTheLaw() {
        // Both hold to "pb;dl;s99;" then: DEBT 2 goes with PARISH 1, as it did by shares; 99 hundredths of 149 are 147.
        Run x = some("promise 17, THE LAW").make("propose(0)").propose(1, "pb;dl;s99;", 0).feed("pb;dl;s99;");
        x.changes("propose(0)", 1, "count(9) = 0", "count(13) = 0", "law(0) = 400", "law(1) = 99", "law(2) = 1", "law(5) = 1", "law(6) = 20",
            "differ() = -1", "THE TAPE for HOUSE 0 = 0", "differ() then = 0", "whose(2, 0) = 1", "whose(2, 2) = 1", "goes(3) = 0",
            "rest(0) = -2", "rest(1) = 149");
    }

    private static void promise20Thing() {
        some("promise 20").changes("thing(3000, 20)", 7, "count(4) = 8", "rest(0) = 0", "rest(1) = 139", "rest(2) = 4", "goes(7) = 0",
            "as(7, 0) = 20", "as(7, 1) = " + KIND, "as(7, 2) = " + KIND, "as(7, 3) = 20", "as(7, 4) = " + KIND, "as(7, 5) = " + KIND,
            "as(7, 6) = " + KIND, "copy(7) = " + KIND);
    }

    private static void promise22Tie() {
        some("promise 22").changes("tie(4, 5)", 2, "count(5) = 2", "rest(2) = 2");
    }

    private static void promise23Part() {
        some("promise 23").changes("part(3, 60)", 7, "count(4) = 8", "rest(0) = 0", "rest(2) = 4", "as(3, 0) = 40", "as(3, 3) = 40",
            "goes(2) = 0", "goes(3) = 0", "goes(7) = 1", "as(7, 0) = 60", "as(7, 1) = " + KIND, "as(7, 2) = " + KIND, "as(7, 3) = 60",
            "as(7, 4) = " + KIND, "as(7, 5) = " + KIND, "as(7, 6) = " + KIND, "copy(7) = " + KIND);
    }

    private static void promise26Hoard() {
        some("promise 26").changes("hoard(0, 7)", 500, "hoard(0, 0) = 7", "stamp(1, 0) = 80", "stamp(1, 1) = 67");
    }

    private static void promise27Week() {
        some("promise 27").changes("week(120100, 60, 5)", 1, "stamp(0, 0) = 156", "stamp(0, 1) = 130", "stamp(0, 2) = 60",
            "stamp(1, 0) = 440", "stamp(1, 1) = 440", "stamp(1, 2) = 0");
    }

    private static void promise29Wagon() {
        some("promise 29").changes("wagon(0, 2)", 3, "count(6) = 4", "home(3) = 1", "where(3, 20) = 2", "where(3, 21) = 2", "where(3, 22) = 2",
            "where(3, 23) = 2", "where(3, 24) = 2", "where(3, 25) = 2", "where(3, 26) = 2", "where(3, 27) = 2", "where(3, 28) = 2",
            "where(3, 400) = 2");
    }

    private static void promise30Send() {
        some("promise 30").changes("send(0, 1)", 23, "where(0, 23) = 1", "where(0, 24) = 1", "where(0, 25) = 1", "where(0, 26) = 1",
            "where(0, 27) = 1", "where(0, 28) = 1", "where(0, 400) = 1");
        some("promise 30").changes("send(1, 2)", 28, "where(1, 23) = 0", "where(1, 24) = 0", "where(1, 25) = 0", "where(1, 26) = 0",
            "where(1, 27) = 0", "where(1, 28) = 2", "where(1, 400) = 2");
    }

    private static void promise33Day() {
        some("promise 33").changes("day(21)", 1, "count(10) = 21", "day(400) = 379", "whose(0, 2) by CHOICES of before = 0", "where(0, 29) = 2",
            "where(1, 29) = 1", "where(2, 29) = 3", "where(0, 20) = gone", "where(1, 20) = gone", "where(2, 20) = gone");
    }

    private static void promise34Open() {
        some("promise 34").changes("open(1, 2, 4, 4)", 3, "count(7) = 4", "court(3) = 1", "waits(3) = 4");
    }

    private static void promise35Copy() {
        some("promise 35").changes("copy(4)", 1, "copy(4) = " + STATE, "waits(2) = " + NONE);
    }

    private static void promise38Task() {
        some("promise 38").changes("task(50)", 3, "count(8) = 4", "best(-2) = 167", "best(-1) = 4", "best(3) = 3", "ahead(0, 3) = 1",
            "ahead(1, 3) = 1", "ahead(2, 3) = 1", "ahead(3, 0) = 1", "ahead(3, 1) = 1", "ahead(3, 2) = 1", "ahead(3, 3) = " + BEYOND);
    }

    private static void promise39Ahead() {
        some("promise 39").changes("ahead(2, 0)", 1, "ahead(2, 0) = " + STATE, "best(1) = 2", "best(2) = 0");
    }

    private static void promise41Tell() {
        some("promise 41").changes("tell(5)", 3, "count(11) = 3", "check() = 3");
    }

    private static void promise42Check() {
        some("promise 42").changes("check()", 0, "count(11) = 0");
        some("promise 42").make("tell(0)").changes("check()", 3, "count(11) = 0", "check() = 0");
    }

    private static void promises7To44WhatOnlyTells() {
        String[] calls = {"side(2)", "enclave(2)", "far(2, 1, 0)", "far(2, 1, 1)", "whose(0, 0)", "whose(1, 1)", "whose(0, 2)",
            "pension(0, 77, 0)", "pension(0, 77, 1)", "law(0)", "law(1)", "law(2)", "law(3)", "law(4)", "law(5)", "law(6)", "differ()",
            "as(4, 4)", "as(2, 0)", "goes(0)", "goes(1)", "goes(2)", "goes(4)", "rest(0)", "rest(1)", "rest(2)", "stamp(0, 0)", "stamp(1, 0)",
            "stamp(0, 1)", "stamp(1, 1)", "stamp(0, 2)", "stamp(1, 2)", "where(0, 20)", "where(0, 25)", "where(1, 400)", "home(0)", "home(1)",
            "court(0)", "court(1)", "waits(2)", "best(-2)", "best(-1)", "best(0)", "best(2)", "count(0)", "count(9)", "count(12)", "count(13)",
            "found(1)", "found(5)"};
        for (String call : calls) {
            some("promises 7 to 44, " + call).changesNothing(call);
        }
    }

    private static void promises2To42OnTheLastDay() {
        // NEW YEAR ends nothing but what WAGONS and TASKS are asked for.
        Run x = some("promises 2 to 42, DAY 400").due("day(400)", 380).due("check()", 0);
        x.due("parish(1, 1)", 4).due("edge(0, 1, 1, 1)", 4).due("peg(1, 99)", 3).due("settle(2, 0)", 1).due("seat(0, 2)", 0);
        x.due("person(0, 0)", 3).due("move(0, 0)", 1).due("work(0, 1, 2)", 1).due("choose(0, 1)", 0).due("pension(0, 9, 0)", 3);
        x.due("feed(59, 1)", 3).due("propose(1)", 0).propose(0, "c3;", 1).due("law(6)", 400).due("whose(0, 2)", 0).due("differ()", -1);
        x.due("thing(3000, 5)", 7).due("tie(3, 5)", 2).due("part(3, 1)", 8).due("as(8, 3)", 1).due("rest(2)", 4);
        x.due("hoard(0, 5)", 500).due("week(1001, 0, 0)", 1).due("stamp(0, 1)", 75).due("wagon(0, 0)", 3).due("send(3, 1)", 401);
        x.due("where(3, 400)", 0).due("home(3)", 0).due("open(1, 0, 3, 4)", 3).due("court(3)", 1).due("copy(4)", 1);
        x.due("task(1)", 3).due("ahead(2, 0)", 1).due("best(-1)", 0).due("tell(0)", 1).due("check()", 0).due("day(400)", 0);
    }
}
