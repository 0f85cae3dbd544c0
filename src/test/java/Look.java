import java.util.ArrayList;
import java.util.List;

/**
 * All that can be seen of an object, in parts, for each of which 512 calls are enough. What can't be asked for is
 * seen by acts that answer what was before: the object is of no use behind it.
 */
final class Look {
    static final int PARTS = 5;

    /** What was asked, what it answered, and k if that was found(k), else 0. */
    record Seen(String what, int answer, int finding) {
    }

    private final PartedLand x;
    private final int part;
    private final List<Seen> seen = new ArrayList<>();

    Look(PartedLand x, int part) {
        this.x = x;
        this.part = part;
    }

    List<Seen> all() {
        for (int k = 1; k <= 5; k++) {
            seen.add(new Seen("found(" + k + ")", x.found(k), k));
        }
        for (int what = 0; what <= 13; what++) {
            see("count(" + what + ")", x.count(what));
        }
        switch (part) {
            case 0:
                land();
                break;
            case 1:
                persons();
                break;
            case 2:
                things();
                break;
            case 3:
                coinAndWagons();
                break;
            default:
                casesAndTasks();
                break;
        }
        return seen;
    }

    private void see(String what, int answer) {
        seen.add(new Seen(what, answer, 0));
    }

    private void land() {
        int parishes = x.count(0);
        for (int p = 0; p < parishes; p++) {
            see("side(" + p + ")", x.side(p));
            see("enclave(" + p + ")", x.enclave(p));
            for (int q = 0; q < p; q++) {
                see("far(" + p + ", " + q + ", 0)", x.far(p, q, 0));
                see("far(" + p + ", " + q + ", 1)", x.far(p, q, 1));
            }
        }
        for (int p = 0; p < parishes; p++) {
            see("settle(" + p + ", 0)", x.settle(p, 0));
        }
        see("seat(0, 0)", x.seat(0, 0));
        see("seat(1, 0)", x.seat(1, 0));
        // Where the latest PEG's y is: as many y as are above it are refused.
        see("peg(50, 1)", x.peg(50, 1));
        see("peg(50, 50)", x.peg(50, 50));
        see("peg(50, 99)", x.peg(50, 99));
    }

    private void persons() {
        int persons = x.count(3);
        for (int what = 0; what <= 6; what++) {
            see("law(" + what + ")", x.law(what));
        }
        see("differ()", x.differ());
        for (int p = 0; p < persons; p++) {
            for (int by = 0; by <= 2; by++) {
                see("whose(" + p + ", " + by + ")", x.whose(p, by));
            }
            see("pension(" + p + ", 100000, 0)", x.pension(p, 100000, 0));
        }
        see("THE TAPE for HOUSE 0", x.propose(0));
        see("differ() then", x.differ());
        // Of CHOICES: whether they were told on this DAY.
        int yesterday = Math.max(0, x.count(10) - 1);
        for (int house = 0; house <= 1; house++) {
            for (char one : ("pc;k" + yesterday + ";").toCharArray()) {
                x.feed(one, 1);
            }
            see("propose(" + house + ")", x.propose(house));
        }
        for (int p = 0; p < persons; p++) {
            see("whose(" + p + ", 2) by CHOICES of before", x.whose(p, 2));
            see("choose(" + p + ", -1)", x.choose(p, -1));
            see("move(" + p + ", 0)", x.move(p, 0));
        }
    }

    private void things() {
        int things = x.count(4);
        for (int what = 0; what <= 2; what++) {
            see("rest(" + what + ")", x.rest(what));
        }
        for (int t = 0; t < things; t++) {
            for (int kind = 1; kind <= 6; kind++) {
                see("as(" + t + ", " + kind + ")", x.as(t, kind));
            }
            see("as(" + t + ", 0)", x.as(t, 0));
            see("goes(" + t + ")", x.goes(t));
        }
        for (int t = 0; t < things; t++) {
            see("copy(" + t + ")", x.copy(t));
        }
    }

    private void coinAndWagons() {
        int persons = x.count(3);
        int wagons = x.count(6);
        int today = x.count(10);
        for (int what = 0; what <= 2; what++) {
            see("stamp(0, " + what + ")", x.stamp(0, what));
            see("stamp(1, " + what + ")", x.stamp(1, what));
        }
        for (int w = 0; w < wagons; w++) {
            see("home(" + w + ")", x.home(w));
            for (int day = today; day <= today + 8; day++) {
                see("where(" + w + ", " + day + ")", x.where(w, day));
            }
            see("where(" + w + ", 400)", x.where(w, 400));
        }
        for (int p = 0; p < persons; p++) {
            see("hoard(" + p + ", 0)", x.hoard(p, 0));
        }
        see("day(400)", x.day(400));
    }

    private void casesAndTasks() {
        int cases = x.count(7);
        int tasks = x.count(8);
        for (int one = 0; one < cases; one++) {
            see("court(" + one + ")", x.court(one));
            see("waits(" + one + ")", x.waits(one));
        }
        for (int what = -2; what <= 9; what++) {
            see("best(" + what + ")", x.best(what));
        }
        for (int task = 0; task < tasks; task++) {
            for (int other = 0; other < tasks; other++) {
                see("ahead(" + task + ", " + other + ")", x.ahead(task, other));
            }
        }
        see("check()", x.check());
    }
}
