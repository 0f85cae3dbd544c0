import java.util.ArrayList;
import java.util.List;

/** The states in which the boundary tests refuse calls: an empty land, one with some of everything, a full one. */
final class Lands {
    private Lands() {
    }

    static List<Run> all(Due due, String name) {
        List<Run> runs = new ArrayList<>();
        runs.add(new Run(due, name + ", empty land"));
        runs.add(some(due, name));
        runs.add(full(due, name));
        return runs;
    }

    /** PARISH 0 on SIDE 0, PARISH 1 on SIDE 1. */
    static Run two(Due due, String name) {
        return new Run(due, name).make("parish(10, 10)", "parish(90, 10)");
    }

    /**
     * Some of everything. THINGS: 0 FIXED, 1 USE, 2 DEBT, 3 MOVED, 4 PAPER, 5 COIN, 6 THING. WAGON 0 is on its
     * way; bytes and numbers wait.
     */
    static Run some(Due due, String name) {
        Run x = new Run(due, name + ", some of everything");
        x.make("parish(10, 10)", "parish(90, 10)", "parish(50, 60)", "edge(0, 1, 3, 1)", "edge(1, 2, 4, 0)", "edge(0, 2, 5, 1)");
        x.make("peg(40, 20)", "peg(50, 60)", "settle(2, 1)", "seat(1, 1)");
        x.make("person(0, 1)", "person(2, 0)", "person(1, 1)", "work(0, 5, 3)", "choose(1, 1)", "hoard(0, 500)", "hoard(1, 70)");
        x.make("week(100120, 60, 5)");
        x.make("thing(1001, 7)", "thing(2000, 5)", "thing(5000, 30)", "thing(3000, 100)", "thing(4000, 40)", "thing(6000, 9)");
        x.make("thing(0, 3)", "tie(2, 3)");
        x.propose(0, "pcw;k10;", 0).propose(1, "pcw;k10;", 1).propose(1, "pb;", 0);
        x.make("day(20)", "choose(0, 0)", "wagon(1, 0)", "send(0, 2)", "wagon(0, 1)");
        x.make("open(0, 0, 3, 4)", "open(1, 1, 9, -1)", "task(9)", "task(100)", "task(8)", "ahead(1, 0)");
        return x.feed("c3").make("tell(0)", "tell(1)");
    }

    /**
     * Everything at its most, 50 bytes and 16 numbers that wait, too. THINGS: 0 FIXED, 1 USE, 2 THING, 3 and 4
     * DEBTS, then MOVED ones and PAPERS (odd ones), 23 COIN; 3 to 15 are TIED.
     */
    static Run full(Due due, String name) {
        Run x = new Run(due, name + ", full land");
        for (int i = 0; i < 12; i++) {
            x.make("parish(" + (i < 6 ? 10 : 90) + ", " + i + ")");
        }
        for (int i = 0; i < 30; i++) {
            x.make("edge(" + i % 12 + ", " + (i + 1 + i / 12) % 12 + ", " + (1 + i % 9) + ", " + i % 2 + ")");
        }
        for (int i = 0; i < 8; i++) {
            x.make("peg(" + (40 + i) + ", " + 2 * i + ")");
        }
        for (int i = 0; i < 16; i++) {
            x.make("person(" + i % 12 + ", " + (15 - i) % 12 + ")");
        }
        x.make("thing(1011, 10000)", "thing(2000, 1)", "thing(0, 1)", "thing(5000, 500)", "thing(5001, 300)");
        for (int i = 5; i < 23; i++) {
            x.make("thing(" + (3 + i % 2) * 1000 + ", " + (i * i) + ")");
        }
        x.make("thing(6000, 10000)");
        for (int i = 3; i < 15; i++) {
            x.make("tie(" + i + ", " + (i + 1) + ")");
        }
        for (int i = 0; i < 10; i++) {
            x.make("wagon(" + i % 2 + ", " + (11 - i) + ")", "open(" + i + ", " + (15 - i) + ", " + Math.max(1, i) + ", 7)");
        }
        for (int i = 0; i < 9; i++) {
            x.make("task(" + (30 + 3 * i) + ")");
        }
        x.make("ahead(8, 0)", "hoard(15, 9999)", "hoard(0, 77)", "week(101100, 5000, 9)", "send(9, 7)");
        for (int i = 0; i < 16; i++) {
            x.make("tell(0)");
        }
        return x.feed("c1;".repeat(14) + "s12;k77;");
    }
}
