/** For each promise of the document: ordinary inputs, the edges that it names, wrong inputs. */
public final class PromiseTest {
    private static final int LOW = Due.LOW;
    private static final int BEYOND = Due.BEYOND;
    private static final int NONE = Due.NONE;
    private static final int STATE = Due.STATE;
    private static final int FULL = Due.FULL;
    private static final int KIND = Due.KIND;
    private static final int[] WRONG_NUMBERS = {-1, 99, Integer.MIN_VALUE, Integer.MAX_VALUE};

    private static final Due due = new Due();

    private PromiseTest() {
    }

    public static void main(String[] args) {
        promise1NewObject();
        promise2Parish();
        promise3Edge();
        promise4Peg();
        promise5Settle();
        promise6Seat();
        promise7Side();
        promise8Enclave();
        promise9Far();
        promise10Person();
        promise11Move();
        promise12Work();
        promise13Choose();
        promise14Whose();
        promise15Pension();
        promise16Feed();
        promise17Propose();
        promise17Faults();
        promise18Law();
        promise19Differ();
        promise20Thing();
        promise21As();
        promise22Tie();
        promise23Part();
        promise24Goes();
        promise24GoesByDebts();
        promise24GoesByTies();
        promise25Rest();
        promise26Hoard();
        promise27Week();
        promise28Stamp();
        promise29Wagon();
        promise30Send();
        promise31Where();
        promise32Home();
        promise33Day();
        promise34Open();
        promise35Copy();
        promise36Court();
        promise37Waits();
        promise38Task();
        promise39Ahead();
        promise40Best();
        promise41Tell();
        promise42Check();
        promise43Count();
        promise44Found();
        promises1To44FindingsChangeNothing();
        promises1To44FullRows();
        due.end();
    }

    /** A land with PARISH 0 on SIDE 0 and PARISH 1 on SIDE 1. */
    private static PartedLand twoParishes() {
        PartedLand x = new PartedLand();
        x.parish(10, 10);
        x.parish(90, 10);
        return x;
    }

    private static void feedText(PartedLand x, String text) {
        for (int i = 0; i < text.length(); i++) {
            x.feed(text.charAt(i), 1);
        }
    }

    private static int propose(PartedLand x, int house, String text) {
        feedText(x, text);
        return x.propose(house);
    }

    private static void enact(PartedLand x, String text) {
        propose(x, 0, text);
        propose(x, 1, text);
    }

    private static void promise1NewObject() {
        due.begin("promise 1");
        PartedLand x = new PartedLand();
        for (int what = 0; what <= 13; what++) {
            due.is("count(" + what + ")", x.count(what), 0);
        }
        for (int k = 1; k <= 5; k++) {
            due.is("found(" + k + ")", x.found(k), 0);
        }
        due.is("law(0)", x.law(0), 400);
        due.is("law(1)", x.law(1), 50);
        due.is("law(2)", x.law(2), 0);
        due.is("law(3)", x.law(3), 9);
        due.is("law(4)", x.law(4), 12);
        due.is("law(5)", x.law(5), 2);
        due.is("law(6)", x.law(6), 0);
        due.is("rest(0)", x.rest(0), 0);
        due.is("rest(1)", x.rest(1), 0);
        due.is("rest(2)", x.rest(2), 0);
        due.is("best(-1)", x.best(-1), 0);
        due.is("best(-2)", x.best(-2), 0);
        due.is("stamp(0, 0)", x.stamp(0, 0), 0);
        due.is("check()", x.check(), 0);
        due.is("side(0)", x.side(0), BEYOND);
        PartedLand other = new PartedLand();
        x.parish(1, 1);
        due.is("count(0) of another object", other.count(0), 0);
    }

    private static void promise2Parish() {
        due.begin("promise 2");
        PartedLand x = new PartedLand();
        due.is("parish(0, 0)", x.parish(0, 0), 0);
        due.is("parish(99, 99)", x.parish(99, 99), 1);
        due.is("parish(-1, 0)", x.parish(-1, 0), BEYOND);
        due.is("parish(0, -1)", x.parish(0, -1), BEYOND);
        due.is("parish(100, 0)", x.parish(100, 0), BEYOND);
        due.is("parish(0, 100)", x.parish(0, 100), BEYOND);
        due.is("parish(0, 0) again", x.parish(0, 0), 2);
        for (int i = 3; i < 12; i++) {
            due.is("parish " + i, x.parish(i, i), i);
        }
        due.is("a 13th", x.parish(0, 0), FULL);
        due.is("a 13th beyond", x.parish(0, 100), BEYOND);
        due.is("count(0)", x.count(0), 12);
    }

    private static void promise3Edge() {
        due.begin("promise 3");
        PartedLand x = twoParishes();
        due.is("edge(0, 1, 1, 0)", x.edge(0, 1, 1, 0), 1);
        due.is("edge(1, 0, 9, 1)", x.edge(1, 0, 9, 1), 2);
        due.is("edge(0, 1, 1, 0) again", x.edge(0, 1, 1, 0), 3);
        due.is("edge(0, 0, 1, 0)", x.edge(0, 0, 1, 0), BEYOND);
        due.is("edge(0, 2, 1, 0)", x.edge(0, 2, 1, 0), BEYOND);
        due.is("edge(2, 0, 1, 0)", x.edge(2, 0, 1, 0), BEYOND);
        due.is("edge(-1, 0, 1, 0)", x.edge(-1, 0, 1, 0), BEYOND);
        due.is("edge(0, -1, 1, 0)", x.edge(0, -1, 1, 0), BEYOND);
        due.is("edge(0, 1, 0, 0)", x.edge(0, 1, 0, 0), BEYOND);
        due.is("edge(0, 1, 10, 0)", x.edge(0, 1, 10, 0), BEYOND);
        due.is("edge(0, 1, 1, 2)", x.edge(0, 1, 1, 2), BEYOND);
        due.is("edge(0, 1, 1, -1)", x.edge(0, 1, 1, -1), BEYOND);
        for (int i = 4; i <= 30; i++) {
            due.is("edge " + i, x.edge(0, 1, 5, 0), i);
        }
        due.is("a 31st", x.edge(0, 1, 1, 0), FULL);
        due.is("a 31st beyond", x.edge(1, 1, 1, 0), BEYOND);
        due.is("count(1)", x.count(1), 30);
    }

    private static void promise4Peg() {
        due.begin("promise 4");
        PartedLand x = new PartedLand();
        due.is("peg(-1, 0)", x.peg(-1, 0), BEYOND);
        due.is("peg(100, 0)", x.peg(100, 0), BEYOND);
        due.is("peg(0, -1)", x.peg(0, -1), BEYOND);
        due.is("peg(0, 100)", x.peg(0, 100), BEYOND);
        due.is("peg(99, 0)", x.peg(99, 0), 1);
        due.is("peg(0, 0)", x.peg(0, 0), BEYOND);
        for (int i = 2; i <= 8; i++) {
            due.is("peg " + i, x.peg(0, i * 10), i);
        }
        due.is("a 9th that isn't above", x.peg(0, 80), BEYOND);
        due.is("a 9th", x.peg(0, 81), FULL);
        due.is("count(2)", x.count(2), 8);
    }

    private static void promise5Settle() {
        due.begin("promise 5");
        PartedLand x = twoParishes();
        due.is("settle(0, 1)", x.settle(0, 1), 0);
        due.is("settle(0, 0)", x.settle(0, 0), 1);
        due.is("settle(0, 0) again", x.settle(0, 0), 0);
        due.is("settle(1, 1)", x.settle(1, 1), 0);
        due.is("settle(0, 2)", x.settle(0, 2), BEYOND);
        due.is("settle(0, -1)", x.settle(0, -1), BEYOND);
        due.is("settle(2, 0)", x.settle(2, 0), BEYOND);
        due.is("settle(-1, 0)", x.settle(-1, 0), BEYOND);
    }

    private static void promise6Seat() {
        due.begin("promise 6");
        PartedLand x = new PartedLand();
        due.is("seat(0, 0) without PARISHES", x.seat(0, 0), BEYOND);
        x = twoParishes();
        due.is("seat(1, 1)", x.seat(1, 1), 0);
        due.is("seat(1, 0)", x.seat(1, 0), 1);
        due.is("seat(0, 1)", x.seat(0, 1), 0);
        due.is("seat(0, 0)", x.seat(0, 0), 1);
        due.is("seat(2, 0)", x.seat(2, 0), BEYOND);
        due.is("seat(-1, 0)", x.seat(-1, 0), BEYOND);
        due.is("seat(0, 2)", x.seat(0, 2), BEYOND);
        due.is("seat(0, -1)", x.seat(0, -1), BEYOND);
    }

    private static void promise7Side() {
        due.begin("promise 7");
        PartedLand x = new PartedLand();
        x.parish(49, 0);
        x.parish(50, 99);
        x.parish(51, 50);
        due.is("x 49 without PEGS", x.side(0), 0);
        due.is("x 50 without PEGS", x.side(1), 0);
        due.is("x 51 without PEGS", x.side(2), 1);
        x.settle(0, 1);
        x.settle(1, 1);
        x.settle(2, 0);
        due.is("x 49, SETTLED for 1", x.side(0), 0);
        due.is("x 50, SETTLED for 1", x.side(1), 1);
        due.is("x 51, SETTLED for 0", x.side(2), 1);
        for (int wrong : WRONG_NUMBERS) {
            due.is("side(" + wrong + ")", x.side(wrong), BEYOND);
        }
        promise7SlantedLine();
    }

    private static void promise7SlantedLine() {
        int[][] pegs = {{60, 10}, {40, 13}, {70, 20}};
        // y, and the x of THE LINE there: a falling piece is cut toward the peg it starts from.
        int[][] line = {{0, 60}, {10, 60}, {11, 54}, {12, 47}, {13, 40}, {14, 44}, {16, 52}, {19, 65}, {20, 70}, {99, 70}};
        for (int[] at : line) {
            PartedLand x = new PartedLand();
            for (int[] peg : pegs) {
                x.peg(peg[0], peg[1]);
            }
            for (int off = -1; off <= 1; off++) {
                int parish = x.parish(at[1] + off, at[0]);
                due.is("x " + (at[1] + off) + " at y " + at[0], x.side(parish), off > 0 ? 1 : 0);
                x.settle(parish, 1);
                due.is("the same, SETTLED for 1", x.side(parish), off < 0 ? 0 : 1);
            }
        }
        PartedLand x = new PartedLand();
        x.peg(30, 50);
        due.is("one PEG, y below", x.side(x.parish(31, 0)), 1);
        due.is("one PEG, y above", x.side(x.parish(29, 99)), 0);
    }

    private static void promise8Enclave() {
        due.begin("promise 8");
        PartedLand x = new PartedLand();
        for (int i = 0; i < 4; i++) {
            x.parish(10, i);
        }
        x.parish(90, 0);
        x.parish(90, 1);
        x.edge(0, 1, 1, 0);
        x.edge(1, 2, 9, 1);
        x.edge(0, 4, 1, 0);
        x.edge(4, 3, 1, 0);
        x.edge(5, 4, 1, 0);
        due.is("the SEAT", x.enclave(0), 0);
        due.is("over an EDGE", x.enclave(1), 0);
        due.is("over two", x.enclave(2), 0);
        due.is("over the other SIDE alone", x.enclave(3), 1);
        due.is("SEAT of SIDE 1 is of SIDE 0", x.enclave(4), 1);
        due.is("the same", x.enclave(5), 1);
        due.is("count(12)", x.count(12), 3);
        x.seat(1, 5);
        due.is("SEAT of SIDE 1 is PARISH 5", x.enclave(4), 0);
        due.is("that SEAT", x.enclave(5), 0);
        x.seat(0, 3);
        due.is("SEAT is PARISH 3", x.enclave(3), 0);
        due.is("PARISH 0 then", x.enclave(0), 1);
        due.is("count(12) then", x.count(12), 3);
        for (int wrong : WRONG_NUMBERS) {
            due.is("enclave(" + wrong + ")", x.enclave(wrong), BEYOND);
        }
        due.is("enclave(6)", x.enclave(6), BEYOND);
    }

    private static void promise9Far() {
        due.begin("promise 9");
        PartedLand x = new PartedLand();
        for (int i = 0; i < 5; i++) {
            x.parish(i, i);
        }
        x.edge(3, 2, 2, 1);
        x.edge(2, 1, 2, 1);
        x.edge(1, 0, 2, 0);
        x.edge(0, 1, 5, 1);
        x.edge(0, 3, 8, 1);
        due.is("far(0, 3, 0)", x.far(0, 3, 0), 6);
        due.is("far(3, 0, 0)", x.far(3, 0, 0), 6);
        due.is("far(0, 3, 1)", x.far(0, 3, 1), 8);
        due.is("far(0, 1, 1)", x.far(0, 1, 1), 5);
        due.is("far(0, 1, 0)", x.far(0, 1, 0), 2);
        due.is("far(0, 2, 1)", x.far(0, 2, 1), 7);
        due.is("far(4, 4, 1)", x.far(4, 4, 1), 0);
        due.is("far(0, 4, 0)", x.far(0, 4, 0), NONE);
        due.is("far(0, 5, 0)", x.far(0, 5, 0), BEYOND);
        due.is("far(5, 0, 0)", x.far(5, 0, 0), BEYOND);
        due.is("far(-1, 0, 0)", x.far(-1, 0, 0), BEYOND);
        due.is("far(0, 4, 2)", x.far(0, 4, 2), BEYOND);
        due.is("far(0, 4, -1)", x.far(0, 4, -1), BEYOND);
        promise9LongChain();
    }

    private static void promise9LongChain() {
        PartedLand x = new PartedLand();
        for (int i = 0; i < 12; i++) {
            x.parish(10, i);
        }
        // Told from the far end on, so that no single pass over the EDGES is enough.
        for (int i = 11; i > 0; i--) {
            x.edge(i, i - 1, 9, 1);
        }
        due.is("far over all PARISHES", x.far(0, 11, 1), 99);
        due.is("far back", x.far(11, 0, 0), 99);
        due.is("enclave(11)", x.enclave(11), 0);
        x.seat(0, 11);
        due.is("enclave(0), SEAT at the other end", x.enclave(0), 0);
        x.wagon(0, 0);
        due.is("send over all PARISHES", x.send(0, 11), 99);
        due.is("where(0, 98)", x.where(0, 98), 10);
        due.is("where(0, 99)", x.where(0, 99), 11);
    }

    private static void promise10Person() {
        due.begin("promise 10");
        PartedLand x = twoParishes();
        due.is("person(0, 1)", x.person(0, 1), 0);
        due.is("its HOME", x.whose(0, 2), 1);
        due.is("person(2, 0)", x.person(2, 0), BEYOND);
        due.is("person(0, 2)", x.person(0, 2), BEYOND);
        due.is("person(-1, 0)", x.person(-1, 0), BEYOND);
        due.is("person(0, -1)", x.person(0, -1), BEYOND);
        for (int i = 1; i < 16; i++) {
            due.is("person " + i, x.person(1, 0), i);
        }
        due.is("a 17th", x.person(0, 0), FULL);
        due.is("a 17th beyond", x.person(0, 2), BEYOND);
        due.is("count(3)", x.count(3), 16);
    }

    private static void promise11Move() {
        due.begin("promise 11");
        PartedLand x = twoParishes();
        x.person(0, 0);
        due.is("move(0, 1)", x.move(0, 1), 0);
        due.is("whose(0, 2)", x.whose(0, 2), 1);
        due.is("move(0, 0)", x.move(0, 0), 1);
        due.is("move(0, 2)", x.move(0, 2), BEYOND);
        due.is("move(0, -1)", x.move(0, -1), BEYOND);
        for (int wrong : WRONG_NUMBERS) {
            due.is("move(" + wrong + ", 0)", x.move(wrong, 0), BEYOND);
        }
        enact(x, "pb;");
        x.move(0, 1);
        due.is("BIRTH stays", x.whose(0, 2), 0);
    }

    private static void promise12Work() {
        due.begin("promise 12");
        PartedLand x = twoParishes();
        x.person(0, 0);
        due.is("work(0, 600, 0)", x.work(0, 600, 0), 1);
        due.is("all by SIDE 0", x.pension(0, 10, 0), 10);
        due.is("work(0, 0, 600)", x.work(0, 0, 600), 1);
        due.is("all by SIDE 1", x.pension(0, 10, 1), 10);
        due.is("work(0, 601, 0)", x.work(0, 601, 0), BEYOND);
        due.is("work(0, 0, 601)", x.work(0, 0, 601), BEYOND);
        due.is("work(0, -1, 0)", x.work(0, -1, 0), BEYOND);
        due.is("work(0, 0, -1)", x.work(0, 0, -1), BEYOND);
        due.is("work(1, 0, 0)", x.work(1, 0, 0), BEYOND);
        due.is("work(-1, 0, 0)", x.work(-1, 0, 0), BEYOND);
        due.is("still all by SIDE 1", x.pension(0, 10, 1), 10);
        due.is("work(0, 0, 0)", x.work(0, 0, 0), 1);
        due.is("each half", x.pension(0, 10, 1), 5);
    }

    private static void promise13Choose() {
        due.begin("promise 13");
        PartedLand x = twoParishes();
        x.person(0, 0);
        due.is("choose(0, 1)", x.choose(0, 1), -1);
        due.is("choose(0, 0)", x.choose(0, 0), 1);
        due.is("choose(0, -1)", x.choose(0, -1), 0);
        due.is("choose(0, -1) again", x.choose(0, -1), -1);
        due.is("choose(0, -2)", x.choose(0, -2), BEYOND);
        due.is("choose(0, 2)", x.choose(0, 2), BEYOND);
        due.is("choose(1, 0)", x.choose(1, 0), BEYOND);
        due.is("choose(-1, 0)", x.choose(-1, 0), BEYOND);
        enact(x, "pc;k5;");
        due.is("without CHOICE", x.whose(0, 2), NONE);
        x.day(5);
        x.choose(0, 1);
        due.is("told on DAY 5, k 5", x.whose(0, 2), 1);
        x.day(6);
        due.is("still on DAY 6", x.whose(0, 2), 1);
        due.is("a finding leaves the CHOICE's DAY", x.choose(0, 7), BEYOND);
        due.is("so it holds", x.whose(0, 2), 1);
        due.is("choose(0, 1) on DAY 6", x.choose(0, 1), 1);
        due.is("told on DAY 6, k 5", x.whose(0, 2), NONE);
    }

    private static void promise14Whose() {
        due.begin("promise 14");
        PartedLand x = twoParishes();
        x.person(1, 0);
        x.person(0, 1);
        due.is("by h", x.whose(0, 2), 0);
        due.is("by h, other", x.whose(1, 2), 1);
        due.is("HOUSE 0 hasn't PROPOSED", x.whose(0, 0), STATE);
        due.is("HOUSE 1 hasn't PROPOSED", x.whose(0, 1), STATE);
        propose(x, 0, "pb;");
        propose(x, 1, "pw;");
        due.is("by b of HOUSE 0", x.whose(0, 0), 1);
        due.is("by b of HOUSE 0, other", x.whose(1, 0), 0);
        due.is("by w of HOUSE 1, as many", x.whose(0, 1), NONE);
        x.work(0, 5, 4);
        due.is("by w, more on 0", x.whose(0, 1), 0);
        x.work(0, 5, 6);
        due.is("by w, more on 1", x.whose(0, 1), 1);
        due.is("by THE LAW still", x.whose(0, 2), 0);
        enact(x, "pwcb;");
        x.work(0, 7, 7);
        due.is("by the third ground", x.whose(0, 2), 1);
        x.choose(0, 0);
        due.is("by the second ground", x.whose(0, 2), 0);
        x.work(0, 1, 7);
        due.is("by the first ground", x.whose(0, 2), 1);
        due.is("whose(0, 3)", x.whose(0, 3), BEYOND);
        due.is("whose(0, -1)", x.whose(0, -1), BEYOND);
        for (int wrong : WRONG_NUMBERS) {
            due.is("whose(" + wrong + ", 2)", x.whose(wrong, 2), BEYOND);
        }
        PartedLand y = twoParishes();
        due.is("BEYOND ahead of STATE", y.whose(0, 0), BEYOND);
        y.person(0, 0);
        y.choose(0, 1);
        propose(y, 1, "");
        due.is("by the empty text hb", y.whose(0, 1), 0);
        propose(y, 0, "pc;k0;");
        due.is("k 0 on DAY 0", y.whose(0, 0), 1);
        y.day(400);
        y.choose(0, 1);
        due.is("k 0 on DAY 400", y.whose(0, 0), NONE);
        propose(y, 0, "pc;");
        due.is("k 400 on DAY 400", y.whose(0, 0), 1);
        propose(y, 0, "pc;k399;");
        due.is("k 399 on DAY 400", y.whose(0, 0), NONE);
    }

    private static void promise15Pension() {
        due.begin("promise 15");
        PartedLand x = twoParishes();
        x.person(0, 0);
        due.is("half of 7, SIDE 0", x.pension(0, 7, 0), 3);
        due.is("half of 7, SIDE 1", x.pension(0, 7, 1), 4);
        due.is("half of 0", x.pension(0, 0, 1), 0);
        x.work(0, 1, 0);
        due.is("one MONTH in all", x.pension(0, 7, 0), 7);
        x.work(0, 2, 1);
        due.is("two thirds of 100000", x.pension(0, 100000, 0), 66666);
        due.is("the rest", x.pension(0, 100000, 1), 33334);
        x.work(0, 600, 599);
        due.is("the greatest", x.pension(0, 100000, 0), 50041);
        due.is("the greatest, the rest", x.pension(0, 100000, 1), 49959);
        due.is("pension(0, 100001, 0)", x.pension(0, 100001, 0), BEYOND);
        due.is("pension(0, -1, 0)", x.pension(0, -1, 0), BEYOND);
        due.is("pension(0, 1, 2)", x.pension(0, 1, 2), BEYOND);
        due.is("pension(0, 1, -1)", x.pension(0, 1, -1), BEYOND);
        due.is("pension(1, 1, 0)", x.pension(1, 1, 0), BEYOND);
        due.is("pension(-1, 1, 0)", x.pension(-1, 1, 0), BEYOND);
    }

    private static void promise16Feed() {
        due.begin("promise 16");
        PartedLand x = new PartedLand();
        due.is("feed(0, 0)", x.feed(0, 0), BEYOND);
        due.is("feed(0, 5)", x.feed(0, 5), BEYOND);
        due.is("feed(0, -1)", x.feed(0, -1), BEYOND);
        due.is("three bytes", x.feed(('s' << 16) | ('7' << 8) | '1', 3), 3);
        due.is("one byte, higher ones don't count", x.feed(0x12345600 | ';', 1), 4);
        due.is("count(9)", x.count(9), 4);
        x.propose(0);
        feedText(x, "s71;");
        due.is("the same text", x.propose(1), 1);
        due.is("law(1)", x.law(1), 71);
        due.is("bytes above 127 come as they are", x.feed(-1, 4), 4);
        due.is("they begin no text", x.propose(0), -10);
        due.is("two bytes", x.feed(('c' << 8) | '3', 2), 2);
        due.is("high bit in the first byte", x.feed(0x80000000, 4), 6);
        due.is("it is fault 2", x.propose(0), -12);
        for (int i = 1; i <= 12; i++) {
            due.is("four bytes more", x.feed(0, 4), 4 * i);
        }
        due.is("three more than fit", x.feed(0, 3), FULL);
        due.is("BEYOND ahead of FULL", x.feed(0, 5), BEYOND);
        due.is("two fit", x.feed(0, 2), 50);
        due.is("one more", x.feed(0, 1), FULL);
        due.is("count(9) then", x.count(9), 50);
    }

    private static void promise17Propose() {
        due.begin("promise 17");
        PartedLand x = new PartedLand();
        due.is("the empty text is THE LAW", x.propose(0), 1);
        due.is("another one isn't yet", propose(x, 0, "c1;"), 0);
        due.is("count(9)", x.count(9), 0);
        feedText(x, "c1;");
        due.is("propose(2)", x.propose(2), BEYOND);
        due.is("propose(-1)", x.propose(-1), BEYOND);
        due.is("THE TAPE stays", x.count(9), 3);
        due.is("both alike", x.propose(1), 1);
        due.is("law(3)", x.law(3), 1);
        due.is("HOUSE 0 leaves it", propose(x, 0, "c2;"), 0);
        due.is("THE LAW stays", x.law(3), 1);
        due.is("HOUSE 1 tells it again", propose(x, 1, "c1;"), 1);
        due.is("the same by another text", propose(x, 1, "c2;c2;"), 0);
        due.is("THE LAW stays then too", x.law(3), 1);
        due.is("a fault", propose(x, 1, "c2;x"), -13);
        due.is("THE TAPE is empty then", x.count(9), 0);
        due.is("what was faulty isn't held to", x.differ(), 3);
        due.is("both alike anew", propose(x, 1, "c2;"), 1);
        due.is("law(3) anew", x.law(3), 2);
        due.is("50 bytes, ended too early", propose(x, 0, "c1;".repeat(16) + "k7"), -60);
        due.is("50 bytes, fault at the last", propose(x, 0, "c1;".repeat(16) + "k;"), -59);
        due.is("bytes of earlier texts don't count", propose(x, 0, "c1"), -12);
        due.is("50 bytes without fault", propose(x, 0, "c1;".repeat(14) + "s12;k77;"), 0);
    }

    private static void promise17Faults() {
        due.begin("promise 17, FAULTS");
        String[] right = {"", "pc;", "phbwc;", "pwc;", "k0;", "k12;", "k999;", "s00;", "s99;", "dl;", "ds;", "c0;", "c9;",
            "u00;", "u24;", "u19;", "u20;", "pb;pc;pb;", "k1;s22;dl;c3;u04;ph;"};
        for (String text : right) {
            PartedLand x = new PartedLand();
            int want = text.isEmpty() ? 1 : 0;
            due.is("propose " + text, propose(x, 0, text), want);
            due.is("both " + text, propose(x, 1, text), 1);
        }
        // What stands before the bar is right so far.
        String[] wrong = {"|x", "|;", "|P", "|7", "|h", "p|", "p|;", "p|x", "p|p", "ph|", "ph|h;", "phb|h;", "phbcw|c;", "phbcw|",
            "phb|,", "k|", "k|;", "k|a", "k1|", "k12|", "k123|4;", "k123|", "k1|a", "k|-1;", "s|", "s|;", "s1|;", "s1|", "s12|3;", "s12|",
            "s|a", "d|", "d|;", "d|d", "dl|", "dl|s;", "ds|x", "c|", "c|;", "c1|2;", "c1|", "c|c", "u|", "u|;", "u|3", "u|34;", "u|9", "u|a",
            "u2|5;", "u2|9", "u2|", "u1|;", "u24|", "u24|0;", "u0|a", "c1;|;", "c1;|1", "dl;s4|;", "pc;pc|c;", "c1;k|"};
        for (String marked : wrong) {
            int fault = marked.indexOf('|');
            String text = marked.substring(0, fault) + marked.substring(fault + 1);
            PartedLand x = new PartedLand();
            due.is("propose " + text, propose(x, 1, text), -10 - fault);
            due.is("it isn't PROPOSED", x.differ(), STATE);
        }
    }

    private static void promise18Law() {
        due.begin("promise 18");
        PartedLand x = new PartedLand();
        x.day(3);
        enact(x, "k77;s01;dl;c0;u24;pwbhc;");
        int[] want = {77, 1, 1, 0, 24, 4, 3};
        for (int what = 0; what < want.length; what++) {
            due.is("law(" + what + ")", x.law(what), want[what]);
        }
        due.is("law(7)", x.law(7), BEYOND);
        due.is("law(-1)", x.law(-1), BEYOND);
        x.day(5);
        propose(x, 0, "");
        propose(x, 0, "k77;s01;dl;c0;u24;pwbhc;");
        due.is("the same THE LAW, since DAY 3", x.law(6), 3);
        enact(x, "k1;k222;s10;s20;dl;ds;c1;c2;u01;u02;pc;pbh;");
        int[] last = {222, 20, 0, 2, 2, 2, 5};
        for (int what = 0; what < last.length; what++) {
            due.is("the last ROW, law(" + what + ")", x.law(what), last[what]);
        }
        x.day(9);
        enact(x, "u00;");
        int[] rest = {400, 50, 0, 9, 0, 2, 9};
        for (int what = 0; what < rest.length; what++) {
            due.is("without ROWS, law(" + what + ")", x.law(what), rest[what]);
        }
        x.day(10);
        enact(x, "");
        due.is("back to the empty text", x.law(4), 12);
        due.is("since DAY 10", x.law(6), 10);
    }

    private static void promise19Differ() {
        due.begin("promise 19");
        PartedLand x = new PartedLand();
        due.is("none PROPOSED", x.differ(), STATE);
        propose(x, 1, "");
        due.is("HOUSE 0 hasn't", x.differ(), STATE);
        propose(x, 0, "");
        due.is("both empty", x.differ(), -1);
        propose(x, 0, "c1;");
        due.is("one ends at 0", x.differ(), 0);
        propose(x, 1, "c1;dl;");
        due.is("one ends at 3", x.differ(), 3);
        propose(x, 0, "c1;ds;");
        due.is("unlike at 4", x.differ(), 4);
        propose(x, 0, "k1;dl;");
        due.is("unlike at 0", x.differ(), 0);
        propose(x, 0, "c1;dl;");
        due.is("alike", x.differ(), -1);
        PartedLand y = new PartedLand();
        propose(y, 0, "c1;");
        due.is("HOUSE 1 hasn't", y.differ(), STATE);
    }

    private static void promise20Thing() {
        due.begin("promise 20");
        PartedLand x = twoParishes();
        due.is("a THING", x.thing(0, 0), 0);
        due.is("a FIXED one", x.thing(1001, 10000), 1);
        due.is("a USE", x.thing(2000, 1), 2);
        due.is("a MOVED one", x.thing(3000, 1), 3);
        due.is("a PAPER", x.thing(4000, 1), 4);
        due.is("a DEBT on a FIXED one", x.thing(5001, 1), 5);
        due.is("a DEBT on a USE", x.thing(5002, 1), 6);
        due.is("a COIN", x.thing(6000, 1), 7);
        int[] wrong = {-1, -1000, 1, 999, 1002, 1999, 2002, 3001, 4001, 5000, 5003, 5005, 5008, 5999, 6001, 7000, 8001,
            Integer.MAX_VALUE, Integer.MIN_VALUE};
        for (int of : wrong) {
            due.is("thing(" + of + ", 1)", x.thing(of, 1), BEYOND);
        }
        due.is("WORTH -1", x.thing(0, -1), BEYOND);
        due.is("WORTH 10001", x.thing(3000, 10001), BEYOND);
        due.is("count(4)", x.count(4), 8);
        for (int i = 8; i < 24; i++) {
            due.is("thing " + i, x.thing(3000, 1), i);
        }
        due.is("a 25th", x.thing(0, 0), FULL);
        due.is("a 25th beyond", x.thing(1, 0), BEYOND);
        due.is("count(4) then", x.count(4), 24);
    }

    private static void promise21As() {
        due.begin("promise 21");
        PartedLand x = twoParishes();
        int[] kinds = {0, 1001, 2001, 3000, 4000, 5001, 6000};
        for (int i = 0; i < kinds.length; i++) {
            x.thing(kinds[i], 100 + i);
        }
        String[] under = {"0", "01", "012", "03", "034", "035", "036"};
        for (int i = 0; i < kinds.length; i++) {
            for (int kind = 0; kind <= 6; kind++) {
                boolean is = under[i].indexOf('0' + kind) >= 0;
                due.is("as(" + i + ", " + kind + ")", x.as(i, kind), is ? 100 + i : KIND);
            }
        }
        due.is("as(0, 7)", x.as(0, 7), BEYOND);
        due.is("as(0, -1)", x.as(0, -1), BEYOND);
        due.is("as(7, 0)", x.as(7, 0), BEYOND);
        due.is("as(-1, 0)", x.as(-1, 0), BEYOND);
    }

    private static void promise22Tie() {
        due.begin("promise 22");
        PartedLand x = twoParishes();
        int[] kinds = {0, 1001, 2001, 3000, 4000, 5001, 6000};
        for (int kind : kinds) {
            x.thing(kind, 1);
        }
        due.is("tie(3, 4)", x.tie(3, 4), 1);
        due.is("tie(5, 6)", x.tie(5, 6), 2);
        due.is("tie(4, 3)", x.tie(4, 3), 3);
        due.is("tie(0, 3)", x.tie(0, 3), KIND);
        due.is("tie(3, 1)", x.tie(3, 1), KIND);
        due.is("tie(2, 3)", x.tie(2, 3), KIND);
        due.is("tie(0, 0)", x.tie(0, 0), BEYOND);
        due.is("tie(3, 3)", x.tie(3, 3), BEYOND);
        due.is("tie(3, 7)", x.tie(3, 7), BEYOND);
        due.is("tie(7, 0)", x.tie(7, 0), BEYOND);
        due.is("tie(-1, 3)", x.tie(-1, 3), BEYOND);
        for (int i = 4; i <= 12; i++) {
            due.is("tie " + i, x.tie(3, 6), i);
        }
        due.is("a 13th", x.tie(3, 4), FULL);
        due.is("KIND ahead of FULL", x.tie(3, 0), KIND);
        due.is("BEYOND ahead of FULL", x.tie(3, 3), BEYOND);
        due.is("count(5)", x.count(5), 12);
    }

    private static void promise23Part() {
        due.begin("promise 23");
        PartedLand x = twoParishes();
        x.thing(1001, 50);
        x.thing(5000, 10);
        x.thing(4000, 2);
        due.is("part(1, 9)", x.part(1, 9), 3);
        due.is("what stays", x.as(1, 5), 1);
        due.is("the new DEBT", x.as(3, 5), 9);
        due.is("nothing would stay", x.part(1, 1), STATE);
        due.is("more than there is", x.part(3, Integer.MAX_VALUE), STATE);
        due.is("part(2, 1)", x.part(2, 1), 4);
        due.is("the new PAPER", x.as(4, 4), 1);
        due.is("part(0, 1)", x.part(0, 1), KIND);
        due.is("KIND ahead of STATE", x.part(0, 50), KIND);
        due.is("part(0, 0)", x.part(0, 0), BEYOND);
        due.is("part(3, -1)", x.part(3, -1), BEYOND);
        due.is("part(5, 1)", x.part(5, 1), BEYOND);
        due.is("part(-1, 1)", x.part(-1, 1), BEYOND);
        enact(x, "dl;");
        due.is("the new DEBT goes with the pledge", x.goes(3), 1);
        for (int i = 5; i < 24; i++) {
            x.thing(0, 1);
        }
        due.is("a 25th", x.part(3, 1), FULL);
        due.is("STATE ahead of FULL", x.part(3, 9), STATE);
        due.is("nothing changed", x.as(3, 5), 9);
        promise23PartsAreNotTied();
    }

    private static void promise23PartsAreNotTied() {
        PartedLand x = twoParishes();
        x.thing(3000, 60);
        x.thing(4000, 40);
        x.tie(0, 1);
        x.copy(1);
        due.is("rest(2)", x.rest(2), 1);
        due.is("rest(0)", x.rest(0), -50);
        due.is("part(0, 50)", x.part(0, 50), 2);
        due.is("rest(2) then", x.rest(2), 2);
        due.is("rest(0) then", x.rest(0), 0);
        due.is("the tied one stays", x.goes(0), 0);
        due.is("the new one goes", x.goes(2), 1);
        due.is("part(1, 5)", x.part(1, 5), 3);
        due.is("a part of a PAPER wasn't COPIED", x.copy(3), 1);
    }

    private static void promise24Goes() {
        due.begin("promise 24");
        PartedLand x = twoParishes();
        x.thing(0, 5);
        x.thing(1000, 5);
        x.thing(1001, 5);
        x.thing(2000, 5);
        x.thing(3000, 30);
        x.thing(6000, 20);
        x.thing(4000, 10);
        due.is("a THING", x.goes(0), NONE);
        due.is("FIXED on SIDE 0", x.goes(1), 0);
        due.is("FIXED on SIDE 1", x.goes(2), 1);
        due.is("a USE", x.goes(3), 2);
        due.is("30 is half of 60", x.goes(4), 0);
        due.is("20", x.goes(5), 1);
        due.is("10", x.goes(6), 1);
        enact(x, "s33;");
        due.is("19 is the aim: 30", x.goes(4), 1);
        due.is("19 is the aim: 20", x.goes(5), 0);
        enact(x, "s00;");
        due.is("all go to SIDE 1", x.goes(4) + x.goes(5) + x.goes(6), 3);
        for (int wrong : WRONG_NUMBERS) {
            due.is("goes(" + wrong + ")", x.goes(wrong), BEYOND);
        }
        due.is("goes(7)", x.goes(7), BEYOND);
        for (int i = 3; i < 14; i++) {
            x.thing(3000, 1);
        }
        due.is("14 GROUPS", x.goes(4), 1);
        x.thing(3000, 1);
        due.is("15 GROUPS", x.goes(4), STATE);
        due.is("a FIXED one of 15 GROUPS", x.goes(1), 0);
        due.is("a USE of 15 GROUPS", x.goes(3), 2);
        due.is("a THING of 15 GROUPS", x.goes(0), NONE);
        x.tie(4, 5);
        due.is("14 GROUPS by a TIE", x.goes(4), 1);
        promise24TheLastOfManyGroups();
    }

    private static void promise24TheLastOfManyGroups() {
        PartedLand x = twoParishes();
        for (int i = 0; i < 13; i++) {
            x.thing(3000, 2);
        }
        x.thing(3000, 26);
        // 26 of 52: either the last one, or all others, and these have the least THING.
        due.is("the first of 14", x.goes(0), 0);
        due.is("the last of 14", x.goes(13), 1);
        enact(x, "s51;");
        due.is("26 of 52, the first", x.goes(0), 0);
        due.is("26 of 52, the last", x.goes(13), 1);
        enact(x, "s49;");
        due.is("25: 24 or 26, the first goes to SIDE 0", x.goes(0), 0);
        due.is("25: nearest, all others too", x.goes(12), 0);
        PartedLand y = twoParishes();
        y.thing(3000, 4);
        y.thing(3000, 5);
        enact(y, "s56;");
        due.is("5 is the aim: 4 is near, but 5 is nearest", y.goes(0), 1);
        due.is("so 5 stays", y.goes(1), 0);
    }

    private static void promise24GoesByDebts() {
        due.begin("promise 24, DEBTS");
        PartedLand x = twoParishes();
        x.thing(1001, 5);
        x.thing(2000, 5);
        x.thing(5000, 30);
        x.thing(5001, 50);
        x.thing(3000, 100);
        // -30, -50 and 100: 10 is the aim; all (20) or none (0) are as near.
        due.is("the first DEBT", x.goes(2), 0);
        due.is("the second DEBT", x.goes(3), 0);
        due.is("the MOVED one", x.goes(4), 0);
        due.is("rest(0)", x.rest(0), -10);
        due.is("rest(1)", x.rest(1), 20);
        enact(x, "dl;");
        due.is("with a FIXED one's land", x.goes(2), 1);
        due.is("with a USE's land", x.goes(3), 0);
        due.is("rest(1) without them", x.rest(1), 100);
        due.is("rest(2) without them", x.rest(2), 1);
        due.is("as near: SIDE 0", x.goes(4), 0);
        PartedLand y = twoParishes();
        y.thing(1000, 5);
        y.thing(5000, 3);
        // -3 times 50 hundredths is cut to -1: 0 is nearer than -3.
        due.is("cut toward 0", y.goes(1), 1);
        due.is("rest(0) below 0", y.rest(0), -1);
        for (int i = 0; i < 15; i++) {
            y.thing(3000, 1);
        }
        enact(y, "dl;");
        due.is("a DEBT by land of 15 GROUPS", y.goes(1), 0);
        due.is("another one of 15 GROUPS", y.goes(2), STATE);
    }

    private static void promise24GoesByTies() {
        due.begin("promise 24, TIES");
        PartedLand x = twoParishes();
        x.thing(1001, 0);
        x.thing(5000, 7);
        x.thing(3000, 40);
        x.thing(3000, 10);
        x.thing(4000, 50);
        x.tie(3, 1);
        x.tie(1, 4);
        due.is("two GROUPS", x.rest(2), 2);
        due.is("a DEBT in its GROUP", x.goes(1), x.goes(3));
        due.is("over the DEBT", x.goes(3), x.goes(4));
        due.is("WORTHS 93", x.rest(1), 93);
        due.is("46: 53 or 40", x.rest(0), 6);
        due.is("the GROUP of 53", x.goes(1), 1);
        due.is("the GROUP of 40", x.goes(2), 0);
        enact(x, "dl;");
        due.is("left out, but the TIES lead over it", x.rest(2), 2);
        due.is("WORTHS 100", x.rest(1), 100);
        due.is("as near: THING 2 is the least that is left", x.goes(2), 0);
        due.is("so 60 go", x.goes(3), 1);
        due.is("and with it", x.goes(4), 1);
        due.is("the DEBT goes with its land", x.goes(1), 1);
        PartedLand y = twoParishes();
        for (int i = 0; i < 13; i++) {
            y.thing(3000, 1);
        }
        for (int i = 12; i > 0; i--) {
            due.is("a chain of TIES", y.tie(i, i - 1), 13 - i);
        }
        due.is("one GROUP over 12 TIES", y.rest(2), 1);
    }

    private static void promise25Rest() {
        due.begin("promise 25");
        PartedLand x = twoParishes();
        x.thing(1000, 1000);
        x.thing(0, 1000);
        due.is("nothing goes by THE PARTING", x.rest(1), 0);
        x.thing(3000, 7);
        due.is("3 is the aim, 0 is nearer than 7", x.rest(0), 3);
        enact(x, "s99;");
        due.is("6 is the aim", x.rest(0), -1);
        due.is("rest(1)", x.rest(1), 7);
        due.is("rest(2)", x.rest(2), 1);
        due.is("rest(3)", x.rest(3), BEYOND);
        due.is("rest(-1)", x.rest(-1), BEYOND);
        for (int i = 1; i < 14; i++) {
            x.thing(3000, 10000);
        }
        due.is("14 GROUPS, WORTHS", x.rest(1), 130007);
        due.is("14 GROUPS, REST: 128706 is the aim, 130000 nearest", x.rest(0), -1294);
        due.is("14 GROUPS", x.rest(2), 14);
        x.thing(6000, 0);
        due.is("15 GROUPS, REST", x.rest(0), STATE);
        due.is("15 GROUPS, WORTHS", x.rest(1), STATE);
        due.is("15 GROUPS", x.rest(2), 15);
        due.is("BEYOND ahead of STATE", x.rest(3), BEYOND);
    }

    private static void promise26Hoard() {
        due.begin("promise 26");
        PartedLand x = twoParishes();
        x.person(0, 0);
        due.is("hoard(0, 9999)", x.hoard(0, 9999), 0);
        due.is("hoard(0, 10000)", x.hoard(0, 10000), BEYOND);
        due.is("hoard(0, -1)", x.hoard(0, -1), BEYOND);
        due.is("hoard(1, 0)", x.hoard(1, 0), BEYOND);
        due.is("hoard(-1, 0)", x.hoard(-1, 0), BEYOND);
        due.is("hoard(0, 0)", x.hoard(0, 0), 9999);
        due.is("hoard(0, 5)", x.hoard(0, 5), 0);
        due.is("stamp(0, 1)", x.stamp(0, 1), 5);
    }

    private static void promise27Week() {
        due.begin("promise 27");
        PartedLand x = twoParishes();
        x.person(0, 0);
        x.hoard(0, 1000);
        due.is("RATE 100 at first", x.stamp(0, 0), 1000);
        due.is("week(1001, 0, 0)", x.week(1001, 0, 0), 1);
        due.is("RATE 1", x.stamp(0, 0), 10);
        due.is("week(200200, 9999, 9)", x.week(200200, 9999, 9), 1);
        due.is("RATE 200", x.stamp(0, 0), 2000);
        int[] wrong = {0, 1, 1000, 1201, 201001, 100000, 100999, -1, -100100, Integer.MAX_VALUE, Integer.MIN_VALUE};
        for (int rates : wrong) {
            due.is("week(" + rates + ", 0, 0)", x.week(rates, 0, 0), BEYOND);
        }
        due.is("week(100100, -1, 0)", x.week(100100, -1, 0), BEYOND);
        due.is("week(100100, 10000, 0)", x.week(100100, 10000, 0), BEYOND);
        due.is("week(100100, 0, -1)", x.week(100100, 0, -1), BEYOND);
        due.is("week(100100, 0, 10)", x.week(100100, 0, 10), BEYOND);
        due.is("RATE 200 still", x.stamp(0, 0), 2000);
    }

    private static void promise28Stamp() {
        due.begin("promise 28");
        PartedLand x = new PartedLand();
        x.parish(10, 0);
        x.parish(20, 0);
        x.parish(90, 0);
        x.edge(0, 1, 3, 1);
        x.edge(1, 2, 4, 0);
        x.person(2, 0);
        x.person(2, 1);
        x.person(0, 2);
        x.hoard(0, 333);
        x.hoard(1, 57);
        x.hoard(2, 999);
        due.is("RATES alike: nothing carried", x.stamp(1, 2) + x.stamp(0, 2), 0);
        due.is("coin on SIDE 0", x.stamp(0, 1), 390);
        x.week(90115, 9999, 7);
        due.is("7 DAYS: all carried to SIDE 1", x.stamp(1, 2), 390);
        due.is("coin on SIDE 1", x.stamp(1, 1), 1389);
        due.is("each cut by itself", x.stamp(1, 0), 382 + 65 + 1148);
        due.is("nothing left", x.stamp(0, 1), 0);
        due.is("nothing STAMPED", x.stamp(0, 0), 0);
        due.is("none carried back", x.stamp(0, 2), 0);
        x.week(90115, 100, 6);
        due.is("6 DAYS: only from PARISH 1", x.stamp(1, 2), 57);
        x.week(90115, 50, 7);
        due.is("LIMIT 50", x.stamp(1, 2), 100);
        due.is("what stays", x.stamp(0, 1), 290);
        due.is("STAMPED of what stays", x.stamp(0, 0), 254 + 6);
        due.is("STAMPED of what came", x.stamp(1, 0), 57 + 57 + 1148);
        x.week(90115, 9999, 3);
        due.is("3 DAYS: too far", x.stamp(1, 2), 0);
        x.week(101100, 9999, 4);
        due.is("the other way", x.stamp(0, 2), 999);
        due.is("coin on SIDE 0 then", x.stamp(0, 1), 1389);
        due.is("STAMPED on SIDE 0 then", x.stamp(0, 0), 336 + 57 + 1008);
        x.week(101100, 0, 9);
        due.is("LIMIT 0", x.stamp(0, 2), 0);
        due.is("stamp(2, 0)", x.stamp(2, 0), BEYOND);
        due.is("stamp(-1, 0)", x.stamp(-1, 0), BEYOND);
        due.is("stamp(0, 3)", x.stamp(0, 3), BEYOND);
        due.is("stamp(0, -1)", x.stamp(0, -1), BEYOND);
        promise28FirstWeek();
    }

    private static void promise28FirstWeek() {
        PartedLand x = new PartedLand();
        x.parish(10, 0);
        x.parish(90, 0);
        x.person(1, 0);
        x.hoard(0, 9999);
        x.week(1002, 9999, 9);
        due.is("no EDGE leads over", x.stamp(1, 2), 0);
        x.edge(0, 1, 9, 0);
        due.is("9 DAYS lead over", x.stamp(1, 2), 9999);
        due.is("STAMPED there", x.stamp(1, 0), 199);
        x.move(0, 1);
        due.is("HOME counts", x.stamp(1, 2), 0);
    }

    private static void promise29Wagon() {
        due.begin("promise 29");
        PartedLand x = twoParishes();
        due.is("wagon(0, 1)", x.wagon(0, 1), 0);
        due.is("wagon(1, 0)", x.wagon(1, 0), 1);
        due.is("where(0, 0)", x.where(0, 0), 1);
        due.is("wagon(2, 0)", x.wagon(2, 0), BEYOND);
        due.is("wagon(-1, 0)", x.wagon(-1, 0), BEYOND);
        due.is("wagon(0, 2)", x.wagon(0, 2), BEYOND);
        due.is("wagon(0, -1)", x.wagon(0, -1), BEYOND);
        for (int i = 2; i < 10; i++) {
            due.is("wagon " + i, x.wagon(0, 0), i);
        }
        due.is("an 11th", x.wagon(0, 0), FULL);
        due.is("an 11th beyond", x.wagon(2, 0), BEYOND);
        due.is("count(6)", x.count(6), 10);
    }

    /** Two ways of 6 days from 0 to 4: by 2 and 3, or by 1; an EDGE of 5 days that is no RAIL. */
    private static PartedLand railways() {
        PartedLand x = new PartedLand();
        for (int i = 0; i < 6; i++) {
            x.parish(i < 4 ? 10 : 90, i);
        }
        x.edge(0, 2, 1, 1);
        x.edge(2, 3, 2, 1);
        x.edge(3, 4, 3, 1);
        x.edge(0, 4, 5, 0);
        x.edge(4, 1, 4, 1);
        x.edge(1, 0, 2, 1);
        x.edge(0, 1, 3, 1);
        return x;
    }

    private static void promise30Send() {
        due.begin("promise 30");
        PartedLand x = railways();
        x.wagon(0, 0);
        due.is("to where it is on DAY 0", x.send(0, 0), 0);
        due.is("send(0, 4)", x.send(0, 4), 6);
        due.is("by the least PARISH", x.where(0, 2), 1);
        due.is("no RAILS lead there", x.send(0, 5), NONE);
        due.is("it goes on all the same", x.where(0, 6), 4);
        due.is("send(0, 6)", x.send(0, 6), BEYOND);
        due.is("send(0, -1)", x.send(0, -1), BEYOND);
        due.is("send(1, 0)", x.send(1, 0), BEYOND);
        due.is("send(-1, 0)", x.send(-1, 0), BEYOND);
        x.edge(0, 4, 1, 1);
        due.is("its way stays as it was", x.where(0, 5), 1);
        x.day(2);
        due.is("SENT anew from PARISH 1", x.send(0, 3), 7);
        due.is("by PARISH 0", x.where(0, 4), 0);
        due.is("and 2", x.where(0, 6), 2);
        due.is("to 3", x.where(0, 7), 3);
        x.day(100);
        due.is("to where it is", x.send(0, 3), 100);
        due.is("it stays", x.where(0, 100), 3);
        x.day(400);
        due.is("above DAY 400", x.send(0, 0), 403);
        due.is("on its way", x.where(0, 400), 3);
        promise30LeastParishFirst();
    }

    private static void promise30LeastParishFirst() {
        // From 3 to 4 by 0 or by 1 or by 2, told in each order.
        for (int first = 0; first < 3; first++) {
            PartedLand x = new PartedLand();
            for (int i = 0; i < 5; i++) {
                x.parish(i, i);
            }
            for (int i = 0; i < 3; i++) {
                int over = (first + i) % 3;
                x.edge(3, over, 2, 1);
                x.edge(4, over, 2, 1);
            }
            x.wagon(0, 3);
            due.is("send(0, 4), three ways", x.send(0, 4), 4);
            due.is("by PARISH 0", x.where(0, 3), 0);
        }
    }

    private static void promise31Where() {
        due.begin("promise 31");
        PartedLand x = railways();
        x.day(10);
        x.wagon(1, 4);
        due.is("where it was made", x.where(0, 10), 4);
        due.is("send(0, 2)", x.send(0, 2), 15);
        int[] want = {4, 4, 4, 3, 3, 2, 2};
        for (int i = 0; i < want.length; i++) {
            due.is("where(0, " + (10 + i) + ")", x.where(0, 10 + i), want[i]);
        }
        due.is("where(0, 400)", x.where(0, 400), 2);
        due.is("where(0, 9)", x.where(0, 9), BEYOND);
        due.is("where(0, 401)", x.where(0, 401), BEYOND);
        due.is("where(0, -1)", x.where(0, -1), BEYOND);
        due.is("where(1, 10)", x.where(1, 10), BEYOND);
        due.is("where(-1, 10)", x.where(-1, 10), BEYOND);
        x.day(12);
        due.is("SENT back ahead of the next PARISH", x.send(0, 4), 12);
        due.is("it never left", x.where(0, 13), 4);
    }

    private static void promise32Home() {
        due.begin("promise 32");
        PartedLand x = railways();
        x.wagon(1, 0);
        x.wagon(0, 0);
        x.wagon(0, 5);
        x.wagon(1, 5);
        due.is("6 days to SIDE 1", x.home(0), 1);
        due.is("it is there", x.home(1), 1);
        due.is("no RAILS", x.home(2), 0);
        due.is("it is there, without RAILS", x.home(3), 1);
        for (int wrong : WRONG_NUMBERS) {
            due.is("home(" + wrong + ")", x.home(wrong), BEYOND);
        }
        x.day(359);
        due.is("359 and 6", x.home(0), 1);
        x.day(360);
        due.is("360 and 6", x.home(0), 0);
        x.send(0, 3);
        due.is("SENT", x.home(0), 0);
        x.day(361);
        due.is("361 in PARISH 2, 5 days", x.home(0), 0);
        x.day(363);
        due.is("363 in PARISH 3, 3 days", x.home(0), 0);
        x.day(365);
        due.is("it is there on NEW YEAR", x.home(1), 1);
        x.day(366);
        due.is("it is there behind NEW YEAR", x.home(1), 0);
        PartedLand y = railways();
        y.wagon(1, 0);
        y.day(360);
        y.send(0, 3);
        due.is("0 is too far", y.home(0), 0);
        y.settle(3, 1);
        y.peg(10, 0);
        due.is("PARISH 3 is of SIDE 1 then", y.home(0), 1);
    }

    private static void promise33Day() {
        due.begin("promise 33");
        PartedLand x = new PartedLand();
        due.is("day(0)", x.day(0), 0);
        due.is("day(365)", x.day(365), 365);
        due.is("day(364)", x.day(364), BEYOND);
        due.is("day(-1)", x.day(-1), BEYOND);
        due.is("day(401)", x.day(401), BEYOND);
        due.is("count(10)", x.count(10), 365);
        due.is("day(400)", x.day(400), 35);
        due.is("day(400) again", x.day(400), 0);
        due.is("count(10) then", x.count(10), 400);
    }

    private static void promise34Open() {
        due.begin("promise 34");
        PartedLand x = twoParishes();
        x.person(0, 0);
        x.thing(4000, 1);
        x.thing(3000, 1);
        due.is("open(0, 0, 1, 0)", x.open(0, 0, 1, 0), 0);
        due.is("open(1, 0, 9, -1)", x.open(1, 0, 9, -1), 1);
        due.is("open(2, 0, 1, 0)", x.open(2, 0, 1, 0), BEYOND);
        due.is("open(-1, 0, 1, 0)", x.open(-1, 0, 1, 0), BEYOND);
        due.is("open(0, 1, 1, 0)", x.open(0, 1, 1, 0), BEYOND);
        due.is("open(0, -1, 1, 0)", x.open(0, -1, 1, 0), BEYOND);
        due.is("open(0, 0, 0, 0)", x.open(0, 0, 0, 0), BEYOND);
        due.is("open(0, 0, 10, 0)", x.open(0, 0, 10, 0), BEYOND);
        due.is("open(0, 0, 1, 2)", x.open(0, 0, 1, 2), BEYOND);
        due.is("open(0, 0, 1, -2)", x.open(0, 0, 1, -2), BEYOND);
        due.is("open(0, 0, 1, 1)", x.open(0, 0, 1, 1), KIND);
        due.is("BEYOND ahead of KIND", x.open(0, 0, 0, 1), BEYOND);
        for (int i = 2; i < 10; i++) {
            due.is("open " + i, x.open(0, 0, 5, -1), i);
        }
        due.is("an 11th", x.open(0, 0, 5, -1), FULL);
        due.is("KIND ahead of FULL", x.open(0, 0, 5, 1), KIND);
        due.is("count(7)", x.count(7), 10);
    }

    private static void promise35Copy() {
        due.begin("promise 35");
        PartedLand x = twoParishes();
        x.thing(4000, 1);
        x.thing(3000, 1);
        x.thing(4000, 1);
        due.is("copy(0)", x.copy(0), 1);
        due.is("copy(0) again", x.copy(0), STATE);
        due.is("copy(2)", x.copy(2), 1);
        due.is("copy(1)", x.copy(1), KIND);
        due.is("copy(3)", x.copy(3), BEYOND);
        for (int wrong : WRONG_NUMBERS) {
            due.is("copy(" + wrong + ")", x.copy(wrong), BEYOND);
        }
    }

    private static void promise36Court() {
        due.begin("promise 36");
        PartedLand x = twoParishes();
        x.person(0, 1);
        x.open(0, 0, 8, -1);
        x.open(0, 0, 9, -1);
        x.open(1, 0, 1, -1);
        due.is("STAGE 8 goes with the PERSON", x.court(0), 1);
        due.is("STAGE 9 stays with the court", x.court(1), 0);
        enact(x, "pb;c8;");
        due.is("STAGE 8, c 8", x.court(0), 0);
        due.is("STAGE 1 with the PERSON, by b", x.court(2), 0);
        enact(x, "pw;c9;");
        due.is("nobody's: with the court", x.court(0), 0);
        due.is("nobody's: with the other court", x.court(2), 1);
        x.work(0, 0, 1);
        due.is("somebody's then", x.court(0), 1);
        enact(x, "pw;c0;");
        due.is("c 0", x.court(0), 0);
        due.is("court(3)", x.court(3), BEYOND);
        for (int wrong : WRONG_NUMBERS) {
            due.is("court(" + wrong + ")", x.court(wrong), BEYOND);
        }
    }

    private static void promise37Waits() {
        due.begin("promise 37");
        PartedLand x = twoParishes();
        x.person(0, 1);
        x.thing(3000, 10);
        x.thing(4000, 10);
        x.thing(4000, 1);
        x.open(0, 0, 9, 1);
        x.open(1, 0, 9, 1);
        x.open(0, 0, 9, -1);
        x.open(0, 0, 8, 1);
        due.is("where the PAPER goes", x.goes(1), 1);
        due.is("the court of SIDE 0", x.waits(0), 1);
        due.is("the court of SIDE 1", x.waits(1), NONE);
        due.is("without a PAPER", x.waits(2), NONE);
        due.is("with the PERSON of SIDE 1", x.waits(3), NONE);
        x.move(0, 0);
        due.is("with the PERSON of SIDE 0", x.waits(3), 1);
        due.is("waits(4)", x.waits(4), BEYOND);
        for (int wrong : WRONG_NUMBERS) {
            due.is("waits(" + wrong + ")", x.waits(wrong), BEYOND);
        }
        for (int i = 3; i < 15; i++) {
            x.thing(3000, 0);
        }
        due.is("15 GROUPS", x.waits(0), STATE);
        due.is("15 GROUPS, the PAPER's own SIDE", x.waits(1), STATE);
        due.is("15 GROUPS, without a PAPER", x.waits(2), NONE);
        x.copy(1);
        due.is("15 GROUPS, COPIED", x.waits(0), NONE);
    }

    private static void promise38Task() {
        due.begin("promise 38");
        PartedLand x = new PartedLand();
        due.is("task(1)", x.task(1), 0);
        due.is("task(200)", x.task(200), 1);
        due.is("task(0)", x.task(0), BEYOND);
        due.is("task(201)", x.task(201), BEYOND);
        due.is("task(-1)", x.task(-1), BEYOND);
        for (int i = 2; i < 9; i++) {
            due.is("task " + i, x.task(5), i);
        }
        due.is("a 10th", x.task(5), FULL);
        due.is("a 10th beyond", x.task(0), BEYOND);
        due.is("count(8)", x.count(8), 9);
    }

    private static void promise39Ahead() {
        due.begin("promise 39");
        PartedLand x = new PartedLand();
        x.task(1);
        x.task(1);
        x.task(1);
        due.is("ahead(2, 0)", x.ahead(2, 0), 1);
        due.is("ahead(2, 0) again", x.ahead(2, 0), STATE);
        due.is("the first in order", x.best(0), 1);
        due.is("then 2", x.best(1), 2);
        due.is("then 0", x.best(2), 0);
        due.is("ahead(0, 2)", x.ahead(0, 2), 1);
        due.is("neither can be done", x.best(-1), 1);
        due.is("ahead(1, 1)", x.ahead(1, 1), BEYOND);
        due.is("ahead(3, 0)", x.ahead(3, 0), BEYOND);
        due.is("ahead(0, 3)", x.ahead(0, 3), BEYOND);
        due.is("ahead(-1, 0)", x.ahead(-1, 0), BEYOND);
        due.is("ahead(0, -1)", x.ahead(0, -1), BEYOND);
    }

    private static void isBest(String what, PartedLand x, int days, int... order) {
        due.is(what + ", how many", x.best(-1), order.length);
        due.is(what + ", DAYS", x.best(-2), days);
        for (int place = 0; place < order.length; place++) {
            due.is(what + ", place " + place, x.best(place), order[place]);
        }
        due.is(what + ", no such place", x.best(order.length), NONE);
    }

    private static void promise40Best() {
        due.begin("promise 40");
        PartedLand x = new PartedLand();
        x.task(200);
        x.task(165);
        x.task(100);
        x.task(100);
        isBest("the fewest DAYS of three", x, 365, 1, 2, 3);
        x.day(1);
        isBest("364 DAYS", x, 200, 2, 3);
        due.is("best(-3)", x.best(-3), BEYOND);
        due.is("the least what", x.best(Integer.MIN_VALUE), BEYOND);
        due.is("the greatest what", x.best(Integer.MAX_VALUE), NONE);
        x.ahead(0, 3);
        isBest("3 behind 0", x, 265, 1, 2);
        x.day(365);
        isBest("NEW YEAR", x, 0);
        x.day(400);
        isBest("behind NEW YEAR", x, 0);
        PartedLand y = new PartedLand();
        for (int i = 0; i < 9; i++) {
            y.task(40);
        }
        isBest("nine TASKS", y, 360, 0, 1, 2, 3, 4, 5, 6, 7, 8);
        y.ahead(8, 0);
        y.ahead(7, 8);
        isBest("0 behind 8 behind 7", y, 360, 1, 2, 3, 4, 5, 6, 7, 8, 0);
        y.day(365 - 120);
        isBest("three of them", y, 120, 1, 2, 3);
        y.ahead(6, 1);
        isBest("1 behind 6", y, 120, 2, 3, 4);
        promise40FewestDays();
    }

    private static void promise40FewestDays() {
        PartedLand x = new PartedLand();
        x.day(360);
        x.task(3);
        x.task(2);
        x.task(1);
        x.task(1);
        isBest("three in 5 DAYS, fewest", x, 4, 1, 2, 3);
        x.ahead(0, 2);
        isBest("2 behind 0", x, 5, 0, 2, 3);
        x.ahead(3, 0);
        isBest("0 behind 3", x, 5, 3, 0, 2);
        PartedLand y = new PartedLand();
        y.task(3);
        isBest("one TASK", y, 3, 0);
        y.task(2);
        y.task(2);
        y.task(1);
        y.ahead(0, 3);
        y.day(361);
        isBest("0 and 3, or 1 and 2", y, 4, 0, 3);
    }

    private static void promise41Tell() {
        due.begin("promise 41");
        PartedLand x = new PartedLand();
        for (int i = 1; i <= 16; i++) {
            due.is("tell " + i, x.tell(Integer.MAX_VALUE), i);
        }
        due.is("a 17th", x.tell(0), FULL);
        due.is("count(11)", x.count(11), 16);
        x.check();
        due.is("count(11) behind check()", x.count(11), 0);
        due.is("tell anew", x.tell(-5), 1);
    }

    private static void promise42Check() {
        due.begin("promise 42");
        PartedLand x = twoParishes();
        x.person(0, 0);
        x.person(0, 1);
        x.person(0, 1);
        due.is("none wait", x.check(), 0);
        x.tell(0);
        x.tell(1);
        due.is("two that are", x.check(), 0);
        x.tell(0);
        x.tell(0);
        x.tell(0);
        due.is("the second isn't", x.check(), 2);
        due.is("none wait then", x.count(11), 0);
        x.tell(1);
        due.is("the first isn't", x.check(), 1);
        x.tell(0);
        x.tell(1);
        x.tell(1);
        x.tell(-1);
        due.is("there is no fourth PERSON", x.check(), 4);
        enact(x, "pw;");
        x.work(1, 1, 0);
        x.tell(-1);
        x.tell(0);
        x.tell(-1);
        due.is("nobody's", x.check(), 0);
        x.tell(NONE);
        due.is("nobody's is -1", x.check(), 1);
        due.is("no finding was answered", x.found(2), 0);
    }

    private static void promise43Count() {
        due.begin("promise 43");
        PartedLand x = twoParishes();
        x.parish(10, 50);
        x.edge(0, 1, 1, 0);
        x.edge(0, 1, 1, 0);
        x.peg(20, 1);
        x.peg(20, 2);
        x.peg(20, 3);
        for (int i = 0; i < 4; i++) {
            x.person(0, 0);
        }
        for (int i = 0; i < 5; i++) {
            x.thing(3000, 1);
        }
        for (int i = 0; i < 6; i++) {
            x.tie(0, 1);
        }
        for (int i = 0; i < 7; i++) {
            x.wagon(0, 0);
        }
        for (int i = 0; i < 8; i++) {
            x.open(0, 0, 1, -1);
        }
        for (int i = 0; i < 9; i++) {
            x.task(1);
        }
        enact(x, "pw;");
        x.work(1, 1, 0);
        feedText(x, "0123456789");
        x.day(11);
        for (int i = 0; i < 12; i++) {
            x.tell(0);
        }
        int[] want = {3, 2, 3, 4, 5, 6, 7, 8, 9, 10, 11, 12, 2, 3};
        for (int what = 0; what < want.length; what++) {
            due.is("count(" + what + ")", x.count(what), want[what]);
        }
        due.is("no finding was answered", x.found(2), 0);
        due.is("count(14)", x.count(14), BEYOND);
        due.is("count(-1)", x.count(-1), BEYOND);
    }

    private static void promise44Found() {
        due.begin("promise 44");
        PartedLand x = twoParishes();
        x.side(7);
        x.goes(7);
        x.far(0, 1, 0);
        x.differ();
        x.differ();
        x.differ();
        for (int i = 0; i < 20; i++) {
            x.tell(i);
        }
        x.thing(0, 1);
        for (int i = 0; i < 5; i++) {
            x.part(0, 1);
        }
        feedText(x, "x");
        x.propose(0);
        int[] want = {0, 2, 1, 3, 4, 5};
        for (int k = 1; k <= 5; k++) {
            due.is("found(" + k + ")", x.found(k), want[k]);
        }
        due.is("found(0)", x.found(0), BEYOND);
        due.is("found(6)", x.found(6), BEYOND);
        due.is("found(LOW)", x.found(LOW), BEYOND);
        due.is("these are counted", x.found(1), 5);
    }

    private static void promises1To44FindingsChangeNothing() {
        due.begin("FINDINGS");
        PartedLand x = twoParishes();
        x.person(0, 0);
        x.choose(0, 1);
        x.choose(0, 9);
        due.is("the CHOICE", x.choose(0, 1), 1);
        x.seat(1, 1);
        x.seat(1, 9);
        due.is("the SEAT", x.seat(1, 1), 1);
        x.settle(0, 1);
        x.settle(0, 9);
        due.is("what it is SETTLED for", x.settle(0, 1), 1);
        x.move(0, 9);
        due.is("the HOME", x.move(0, 0), 0);
        x.hoard(0, 70);
        x.hoard(0, 10000);
        due.is("the HOARD", x.hoard(0, 70), 70);
        x.week(100100, 5, 99);
        due.is("the week", x.stamp(0, 0), 70);
        x.day(9);
        x.day(401);
        due.is("the DAY", x.count(10), 9);
        due.is("counted", x.found(1), 7);
    }

    /** Where all is at its most, every call must still look no further than its rows go. */
    private static void promises1To44FullRows() {
        due.begin("all at its most");
        PartedLand x = new PartedLand();
        for (int i = 0; i < 12; i++) {
            x.parish(i < 6 ? 10 : 90, i);
        }
        for (int i = 0; i < 30; i++) {
            x.edge(i % 12, (i + 1) % 12, 9, 1);
        }
        for (int i = 0; i < 8; i++) {
            x.peg(50, i);
        }
        for (int i = 0; i < 16; i++) {
            x.person(0, i % 12);
            x.hoard(i, 9999);
        }
        x.thing(1000, 1);
        for (int i = 1; i < 24; i++) {
            x.thing(3000, 10000);
        }
        for (int i = 1; i < 13; i++) {
            x.tie(i, i + 1);
        }
        for (int i = 0; i < 10; i++) {
            x.wagon(i % 2, i);
            x.open(i, i, 9, -1);
        }
        x.week(1200, 9999, 9);
        due.is("far(0, 6, 1)", x.far(0, 6, 1), 54);
        due.is("side(11)", x.side(11), 1);
        due.is("count(12)", x.count(12), 6);
        due.is("count(13)", x.count(13), 0);
        due.is("whose(15, 2)", x.whose(15, 2), 0);
        // Of PERSONS at 0, 5, 6 .. 11, 0 (12): 0 and 5 are an EDGE off SIDE 1.
        due.is("stamp(1, 2)", x.stamp(1, 2), 3 * 9999);
        due.is("stamp(1, 1)", x.stamp(1, 1), 9 * 9999);
        due.is("stamp(1, 0)", x.stamp(1, 0), 9 * 19998);
        due.is("stamp(0, 0)", x.stamp(0, 0), 7 * 99);
        due.is("rest(2)", x.rest(2), 11);
        due.is("rest(1)", x.rest(1), 230000);
        due.is("rest(0): 130000 or 100000 of 115000", x.rest(0), -15000);
        due.is("goes(23)", x.goes(23), 1);
        due.is("send(9, 3)", x.send(9, 3), 54);
        due.is("by the least PARISH at each step", x.where(9, 9), 8);
        due.is("home(9)", x.home(9), 1);
        due.is("court(9)", x.court(9), 1);
        due.is("no finding was answered", x.found(1) + x.found(2) + x.found(3) + x.found(4) + x.found(5), 0);
    }
}
