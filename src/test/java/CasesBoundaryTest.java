/** The boundary cases of the promises 34 to 40, and of what Terms say of cases and tasks. */
public final class CasesBoundaryTest {
    private static final int BEYOND = Due.BEYOND;
    private static final int NONE = Due.NONE;
    private static final int STATE = Due.STATE;
    private static final int FULL = Due.FULL;
    private static final int KIND = Due.KIND;
    private static final int LEAST = Integer.MIN_VALUE;
    private static final int GREATEST = Integer.MAX_VALUE;

    private static final Due due = new Due();

    private CasesBoundaryTest() {
    }

    public static void main(String[] args) {
        promise34CourtPersonStage();
        promise34PaperOrNone();
        promise34NoPaperOfThatKind();
        promise34TenAtMost();
        promise35NoSuchThing();
        promise35OnlyPapersOnce();
        promise36NoSuchCase();
        promise36StageOfCOrAbove();
        promise36NobodysGoWithTheCourt();
        promise37NoSuchCase();
        promise37NoPaperOrCopied();
        promise37MoreThan14Groups();
        promise37OnlyForTheOtherSide();
        promise38DaysAre1To200();
        promise38NineAtMost();
        promise39TasksOfBoth();
        promise39ToldAlready();
        promise39AheadOfOneAnother();
        promise40What();
        promise40NoTasks();
        promise40ToNewYear();
        promise40MostThenFewestDays();
        promise40LesserTaskFirst();
        promise40AllThatIsAhead();
        promise40NineTasks();
        due.end();
    }

    /** PERSON 0, born on SIDE 0 with its HOME on SIDE 1; THING 0 is a PAPER, which by THE PARTING goes to SIDE 0. */
    private static Run withPaper(String name) {
        return Lands.two(due, name).make("person(0, 1)", "thing(4000, 10)");
    }

    // ---- promise 34: open

    private static void promise34CourtPersonStage() {
        new Run(due, "promise 34, empty land").refused("open(0, 0, 1, -1)", BEYOND);
        Lands.two(due, "promise 34, no PERSON").refused("open(0, 0, 1, -1)", BEYOND);
        Run x = withPaper("promise 34").refusedBeside("open(?, 0, 1, -1)", -1, 2).refusedBeside("open(0, ?, 1, -1)", -1, 1);
        x.refusedBeside("open(0, 0, ?, -1)", 0, 10).refused("open(0, 0, -1, -1)", BEYOND);
        x.due("open(0, 0, 1, -1)", 0).due("open(1, 0, 9, 0)", 1).due("count(7)", 2);
        Run some = Lands.some(due, "promise 34").refusedBeside("open(?, 0, 1, 4)", -1, 3).refusedBeside("open(0, ?, 1, 4)", -1, 3);
        some.refusedBeside("open(0, 0, ?, 4)", 0, 10).due("open(2, 2, 9, 4)", 2);
        Run full = Lands.full(due, "promise 34").refusedBeside("open(?, 0, 1, 7)", -1, 12).refusedBeside("open(0, ?, 1, 7)", -1, 16);
        full.refusedBeside("open(0, 0, ?, 7)", 0, 10);
        Run last = new Run(due, "promise 34, the last ones").times(12, "parish(1, 1)").times(16, "person(0, 0)").times(24, "thing(4000, 1)");
        last.due("open(11, 15, 9, 23)", 0).refused("open(12, 15, 9, 23)", BEYOND).refused("open(11, 16, 9, 23)", BEYOND);
        last.refused("open(11, 15, 10, 23)", BEYOND).refused("open(11, 15, 9, 24)", BEYOND);
    }

    private static void promise34PaperOrNone() {
        Run x = withPaper("promise 34, paper").refusedBeside("open(0, 0, 1, ?)", -2, 1).due("open(0, 0, 1, 0)", 0).due("open(0, 0, 1, -1)", 1);
        x.due("open(1, 0, 9, 0)", 2).due("waits(2)", 0).make("copy(0)").due("open(1, 0, 9, 0)", 3).refused("waits(3)", NONE);
        Run y = Lands.two(due, "promise 34, no THING").make("person(0, 0)").refused("open(0, 0, 1, 0)", BEYOND).due("open(0, 0, 1, -1)", 0);
        y.refused("open(0, 0, 1, -2)", BEYOND);
        Lands.some(due, "promise 34, paper").refusedBeside("open(0, 0, 1, ?)", -2, 7);
        Lands.full(due, "promise 34, paper").refusedBeside("open(0, 0, 1, ?)", -2, 24);
    }

    private static void promise34NoPaperOfThatKind() {
        Run x = Lands.some(due, "promise 34, KIND").refusedWith("open(0, 0, 1, ?)", KIND, 0, 1, 2, 3, 5, 6);
        x.refused("open(3, 0, 1, 0)", BEYOND).refused("open(0, 3, 1, 0)", BEYOND).refused("open(0, 0, 0, 0)", BEYOND);
        x.refused("open(0, 0, 10, 3)", BEYOND).due("found(5)", 6).due("open(0, 0, 1, 4)", 2);
        Lands.full(due, "promise 34, KIND ahead of FULL").refusedWith("open(0, 0, 1, ?)", KIND, 0, 1, 2, 3, 4, 6, 8, 22, 23);
    }

    private static void promise34TenAtMost() {
        Run x = withPaper("promise 34, 10 at most").make("thing(3000, 1)");
        for (int i = 0; i < 10; i++) {
            x.due("count(7)", i).due("open(" + i % 2 + ", 0, 9, -1)", i);
        }
        x.refused("open(0, 0, 1, -1)", FULL).refused("open(0, 0, 1, 0)", FULL).refused("open(0, 0, 1, 1)", KIND).due("count(7)", 10);
        x.refused("open(2, 0, 1, -1)", BEYOND).refused("open(0, 1, 1, -1)", BEYOND).refused("open(0, 0, 0, -1)", BEYOND);
        x.refused("open(0, 0, 10, -1)", BEYOND).refused("open(0, 0, 1, -2)", BEYOND).refused("open(0, 0, 1, 2)", BEYOND);
        x.due("court(9)", 1).due("court(8)", 0).due("found(4)", 2).due("found(5)", 1).due("found(1)", 6);
    }

    // ---- promise 35: copy

    private static void promise35NoSuchThing() {
        new Run(due, "promise 35, empty land").refusedBeside("copy(?)", -1, 0);
        Lands.some(due, "promise 35").refusedBeside("copy(?)", -1, 7).due("copy(4)", 1);
        Lands.full(due, "promise 35").refusedBeside("copy(?)", -1, 24).due("copy(21)", 1).refused("copy(21)", STATE);
    }

    private static void promise35OnlyPapersOnce() {
        Run x = Lands.some(due, "promise 35, KIND").refusedWith("copy(?)", KIND, 0, 1, 2, 3, 5, 6).due("copy(4)", 1).refused("copy(4)", STATE);
        x.refused("copy(4)", STATE).refusedWith("copy(?)", KIND, 3, 5).make("thing(4000, 1)").due("copy(7)", 1).refused("copy(7)", STATE);
        x.due("found(3)", 3).due("found(5)", 8);
    }

    // ---- promise 36: court

    private static void promise36NoSuchCase() {
        withPaper("promise 36, no CASE").refusedBeside("court(?)", -1, 0);
        Lands.some(due, "promise 36").refusedBeside("court(?)", -1, 2).changesNothing("court(0)", "court(1)");
        Lands.full(due, "promise 36").refusedBeside("court(?)", -1, 10).due("court(9)", 1);
    }

    private static void promise36StageOfCOrAbove() {
        // CASE i is of STAGE i + 1, its court on SIDE 0, its PERSON of SIDE 1.
        Run x = withPaper("promise 36, STAGES");
        for (int stage = 1; stage <= 9; stage++) {
            x.make("open(0, 0, " + stage + ", -1)");
        }
        for (int c = 0; c <= 9; c++) {
            x.enact("c" + c + ";");
            for (int stage = Math.max(1, c - 1); stage <= Math.min(9, c + 1); stage++) {
                x.due("court(" + (stage - 1) + ")", stage >= c ? 0 : 1);
            }
        }
        Run y = withPaper("promise 36, c 9 at first").make("open(0, 0, 8, -1)", "open(0, 0, 9, -1)", "open(1, 0, 9, -1)");
        y.due("court(0)", 1).due("court(1)", 0).due("court(2)", 1);
        // Each CASE has its own court and PERSON.
        y.make("person(1, 0)", "open(1, 1, 8, -1)").due("court(3)", 0).due("court(0)", 1);
        // Only THE LAW counts, not what one HOUSE holds to.
        y.propose(0, "c1;", 0).due("court(0)", 1).propose(1, "c1;", 1).due("court(0)", 0);
    }

    private static void promise36NobodysGoWithTheCourt() {
        Run x = withPaper("promise 36, nobody's").make("open(0, 0, 1, -1)", "open(1, 0, 1, -1)").enact("pw;").due("court(0)", 0).due("court(1)", 1);
        x.make("work(0, 1, 0)").due("court(0)", 0).due("court(1)", 0).make("work(0, 0, 1)").due("court(0)", 1).due("court(1)", 1);
        x.make("work(0, 600, 600)").due("court(0)", 0).due("court(1)", 1).due("found(2)", 0);
        Run y = new Run(due, "promise 36, a court on THE LINE").make("parish(50, 0)", "person(0, 0)", "open(0, 0, 9, -1)").due("court(0)", 0);
        y.make("settle(0, 1)").due("court(0)", 1);
    }

    // ---- promise 37: waits

    private static void promise37NoSuchCase() {
        withPaper("promise 37, no CASE").refusedBeside("waits(?)", -1, 0);
        Lands.some(due, "promise 37").refusedBeside("waits(?)", -1, 2).refused("waits(1)", NONE);
        Lands.full(due, "promise 37").refusedBeside("waits(?)", -1, 10);
    }

    private static void promise37NoPaperOrCopied() {
        Run x = withPaper("promise 37, NONE").make("open(1, 0, 9, -1)", "open(1, 0, 9, 0)").refused("waits(0)", NONE).due("waits(1)", 0);
        x.make("copy(0)").refused("waits(1)", NONE).refused("waits(0)", NONE).due("found(2)", 3);
        // A part of it is a PAPER of its own, which wasn't COPIED.
        x.make("part(0, 4)", "open(1, 0, 9, 1)", "open(0, 0, 9, 1)").due("goes(1)", 1).refused("waits(2)", NONE).due("waits(3)", 1);
    }

    private static void promise37MoreThan14Groups() {
        Run x = withPaper("promise 37, GROUPS").make("open(1, 0, 9, 0)", "open(0, 0, 9, 0)", "open(0, 0, 9, -1)").times(13, "thing(3000, 0)");
        x.due("rest(2)", 14).due("waits(0)", 0).refused("waits(1)", NONE).refused("waits(2)", NONE);
        x.make("thing(3000, 0)").refused("waits(0)", STATE).refused("waits(1)", STATE).refused("waits(2)", NONE).refused("waits(3)", BEYOND);
        x.make("copy(0)").refused("waits(0)", NONE).refused("waits(1)", NONE).due("found(3)", 2);
    }

    private static void promise37OnlyForTheOtherSide() {
        Run x = withPaper("promise 37, SIDES").make("open(0, 0, 9, 0)", "open(1, 0, 9, 0)", "open(0, 0, 8, 0)").due("goes(0)", 0);
        x.refused("waits(0)", NONE).due("waits(1)", 0).due("waits(2)", 0).make("move(0, 0)").refused("waits(2)", NONE);
        x.enact("s00;").due("goes(0)", 1).due("waits(0)", 0).refused("waits(1)", NONE).due("waits(2)", 0).make("move(0, 1)").refused("waits(2)", NONE);
        x.enact("pw;s00;").due("waits(2)", 0).make("work(0, 0, 1)").refused("waits(2)", NONE);
        Run y = withPaper("promise 37, the last PAPER").times(22, "thing(0, 1)").make("thing(4000, 9)", "open(1, 0, 9, 23)").due("goes(23)", 0);
        y.due("waits(0)", 23);
    }

    // ---- promise 38: task

    private static void promise38DaysAre1To200() {
        for (Run x : Lands.all(due, "promise 38")) {
            x.refusedBeside("task(?)", 0, 201).refused("task(-1)", BEYOND);
        }
        Run x = new Run(due, "promise 38").due("task(1)", 0).due("task(200)", 1).due("best(-1)", 2).due("best(-2)", 201).due("count(8)", 2);
        x.refused("task(201)", BEYOND).refused("task(0)", BEYOND).due("count(8)", 2);
    }

    private static void promise38NineAtMost() {
        Run x = new Run(due, "promise 38, 9 at most");
        for (int i = 0; i < 9; i++) {
            x.due("count(8)", i).due("task(" + (i + 1) + ")", i);
        }
        x.refused("task(1)", FULL).refused("task(200)", FULL).refused("task(0)", BEYOND).refused("task(201)", BEYOND).due("count(8)", 9);
        x.due("best(-1)", 9).due("best(-2)", 45).due("best(8)", 8).refused("best(9)", NONE).due("found(4)", 2);
    }

    // ---- promise 39: ahead

    private static void promise39TasksOfBoth() {
        new Run(due, "promise 39, no TASK").refused("ahead(0, 0)", BEYOND).refused("ahead(0, 1)", BEYOND).refused("ahead(-1, 0)", BEYOND);
        Run x = new Run(due, "promise 39").make("task(1)", "task(1)").refusedBeside("ahead(0, ?)", -1, 2).refusedBeside("ahead(?, 0)", -1, 2);
        x.refused("ahead(0, 0)", BEYOND).refused("ahead(1, 1)", BEYOND).due("ahead(0, 1)", 1);
        Lands.some(due, "promise 39").refusedBeside("ahead(0, ?)", -1, 3).refusedBeside("ahead(?, 2)", -1, 3).refused("ahead(2, 2)", BEYOND);
        Run full = Lands.full(due, "promise 39").refusedBeside("ahead(8, ?)", -1, 9).refusedBeside("ahead(?, 8)", -1, 9);
        full.refused("ahead(8, 8)", BEYOND).refused("ahead(8, 0)", STATE).due("ahead(0, 8)", 1).due("ahead(8, 7)", 1);
        // 32 and more would be bits that wrap around.
        full.refusedWith("ahead(?, 1)", BEYOND, 31, 32, 33, 40, 64, -32).refusedWith("ahead(1, ?)", BEYOND, 31, 32, 34, 40, 64, -31);
    }

    private static void promise39ToldAlready() {
        Run x = new Run(due, "promise 39, STATE").make("task(1)", "task(1)", "task(1)").due("ahead(1, 0)", 1).refused("ahead(1, 0)", STATE);
        x.refused("ahead(1, 0)", STATE).due("ahead(2, 1)", 1);
        // That 2 is ahead of 0 follows, but it isn't told.
        x.due("ahead(2, 0)", 1).refused("ahead(2, 0)", STATE).refused("ahead(2, 1)", STATE).due("ahead(0, 1)", 1).due("found(3)", 4);
        x.refused("ahead(1, 1)", BEYOND).refused("ahead(1, 3)", BEYOND).refused("ahead(3, 0)", BEYOND);
    }

    private static void promise39AheadOfOneAnother() {
        Run x = new Run(due, "promise 39, one another").make("task(1)", "task(1)", "task(1)").make("ahead(0, 1)", "ahead(1, 0)");
        best(x, 1, 2).make("ahead(2, 0)");
        best(x, 1, 2).make("ahead(0, 2)");
        best(x, 0);
        Run y = new Run(due, "promise 39, in a ring").make("task(1)", "task(1)", "task(1)", "task(9)", "ahead(0, 1)", "ahead(1, 2)", "ahead(2, 0)");
        best(y, 9, 3).make("ahead(0, 3)");
        best(y, 0);
    }

    // ---- promise 40: best

    /** THE BEST has so many DAYS, and is this ORDER. */
    private static Run best(Run x, int days, int... order) {
        x.due("best(-1)", order.length).due("best(-2)", days);
        for (int place = 0; place < order.length; place++) {
            x.due("best(" + place + ")", order[place]);
        }
        return x.refused("best(" + order.length + ")", NONE);
    }

    private static void promise40What() {
        for (Run x : Lands.all(due, "promise 40")) {
            x.refusedWith("best(?)", BEYOND, -3, -4, -1000, LEAST).refusedWith("best(?)", NONE, 9, 10, 1000, GREATEST);
            x.changesNothing("best(-1)", "best(-2)");
        }
    }

    private static void promise40NoTasks() {
        best(new Run(due, "promise 40, no TASKS"), 0).refused("best(1)", NONE);
        best(new Run(due, "promise 40, a TASK that is too long").make("day(166)", "task(200)"), 0);
        best(new Run(due, "promise 40, a TASK that just fits").make("day(165)", "task(200)"), 200, 0);
    }

    private static void promise40ToNewYear() {
        Run x = new Run(due, "promise 40, 365 DAYS").make("task(200)", "task(165)", "task(1)");
        best(x, 166, 1, 2);
        Run y = new Run(due, "promise 40, all of them").make("task(200)", "task(165)");
        best(y, 365, 0, 1).make("day(1)");
        best(y, 165, 1).make("day(200)");
        best(y, 165, 1).make("day(201)");
        best(y, 0);
        Run z = new Run(due, "promise 40, the last DAYS").make("task(1)", "task(2)", "day(362)");
        best(z, 3, 0, 1).make("day(363)");
        best(z, 1, 0).make("day(364)");
        best(z, 1, 0).make("day(365)");
        best(z, 0).make("day(366)");
        best(z, 0).make("day(400)");
        best(z, 0);
    }

    private static void promise40MostThenFewestDays() {
        Run x = new Run(due, "promise 40, the most TASKS").make("day(265)", "task(100)", "task(50)", "task(50)");
        best(x, 100, 1, 2).make("task(49)");
        best(x, 99, 1, 3).make("task(51)");
        best(x, 99, 1, 3).make("task(1)");
        // 1, 49 and 50 are 100 DAYS: three fit to the DAY.
        best(x, 100, 1, 3, 5).make("day(266)");
        best(x, 50, 3, 5);
        // Fewer DAYS count ahead of the lesser TASK: 1 and 2, not 0 and 3.
        best(new Run(due, "promise 40, the fewest DAYS").make("day(359)", "task(3)", "task(2)", "task(2)", "task(3)"), 4, 1, 2);
        best(new Run(due, "promise 40, the fewest DAYS of one").make("day(360)", "task(5)", "task(4)", "task(3)", "task(4)"), 3, 2);
    }

    private static void promise40LesserTaskFirst() {
        Run x = new Run(due, "promise 40, the lesser TASK").make("day(363)", "task(1)", "task(1)", "task(1)");
        best(x, 2, 0, 1).make("ahead(2, 0)");
        // 1 and 2 or 2 and 0 or 2 and 1: 1 is the lesser at the first place.
        best(x, 2, 1, 2).make("ahead(2, 1)");
        best(x, 2, 2, 0);
        Run y = new Run(due, "promise 40, the second place").make("day(362)").times(5, "task(1)").make("ahead(4, 1)");
        best(y, 3, 0, 2, 3).make("ahead(3, 2)");
        best(y, 3, 0, 3, 2).make("ahead(4, 2)");
        best(y, 3, 0, 3, 4).make("ahead(3, 0)");
        best(y, 3, 3, 0, 4);
        // 0, 2, 4, 1 and 0, 2, 3, 4 differ at the third place.
        best(new Run(due, "promise 40, the third place").make("day(361)").times(5, "task(1)").make("ahead(4, 1)"), 4, 0, 2, 3, 4);
    }

    private static void promise40AllThatIsAhead() {
        // A TASK needs all that must be ahead of it, over others too.
        Run x = new Run(due, "promise 40, all that is ahead").make("task(1)", "task(200)", "task(165)", "ahead(1, 0)");
        best(x, 201, 1, 0).make("ahead(2, 1)");
        best(x, 365, 2, 1).make("task(100)", "task(100)");
        best(x, 365, 2, 3, 4).make("ahead(1, 3)");
        best(x, 265, 2, 4).make("ahead(0, 4)");
        best(x, 365, 2, 1);
    }

    private static void promise40NineTasks() {
        Run x = new Run(due, "promise 40, 9 TASKS").times(9, "task(40)");
        best(x, 360, 0, 1, 2, 3, 4, 5, 6, 7, 8).make("ahead(8, 0)");
        best(x, 360, 1, 2, 3, 4, 5, 6, 7, 8, 0);
        for (int i = 1; i < 8; i++) {
            x.make("ahead(" + (i + 1) + ", " + i + ")");
        }
        best(x, 360, 8, 0, 7, 6, 5, 4, 3, 2, 1).make("day(5)");
        best(x, 360, 8, 0, 7, 6, 5, 4, 3, 2, 1).make("day(6)");
        best(x, 320, 8, 0, 7, 6, 5, 4, 3, 2);
        Run y = new Run(due, "promise 40, 9 TASKS of 200 DAYS").times(9, "task(200)");
        best(y, 200, 0);
    }
}
