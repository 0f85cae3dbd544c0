import java.util.ArrayList;
import java.util.LinkedHashMap;
import java.util.List;
import java.util.Map;

/**
 * A run of calls on a new object, each told as it is written ("parish(10, 10)"), for the boundary tests. It
 * remembers its calls, so that a second object can be brought to the same state by them.
 */
final class Run {
    private static final int MOST_CALLS = 512;
    private static final Calls LAND = new Calls(PartedLand.class);
    private static final Calls MODEL = new Calls(LandModel.class);

    private record Call(String name, int... arguments) {
        int on(PartedLand land) {
            return LAND.ask(land, name, arguments);
        }

        int on(LandModel model) {
            return MODEL.ask(model, name, arguments);
        }
    }

    private final Due due;
    private final String name;
    private final PartedLand land = new PartedLand();
    private final List<Call> calls = new ArrayList<>();

    Run(Due due, String name) {
        this.due = due;
        this.name = name;
    }

    private static Call read(String text) {
        int bracket = text.indexOf('(');
        String inside = text.substring(bracket + 1, text.length() - 1).trim();
        int[] arguments = new int[inside.isEmpty() ? 0 : inside.split(",").length];
        for (int i = 0; i < arguments.length; i++) {
            arguments[i] = Integer.parseInt(inside.split(",")[i].trim());
        }
        return new Call(text.substring(0, bracket), arguments);
    }

    private int ask(String text) {
        Call call = read(text);
        calls.add(call);
        due.holds(name + ": no more than 512 calls", calls.size() <= MOST_CALLS);
        return call.on(land);
    }

    /** A call that must be answered so. */
    Run due(String call, int want) {
        due.is(name + ": " + call, ask(call), want);
        return this;
    }

    /** Calls that must not be refused, whatever they answer. */
    Run make(String... some) {
        for (String call : some) {
            int got = ask(call);
            due.holds(name + ": " + call + " was refused with " + got, got > Due.LOW);
        }
        return this;
    }

    /** The same call so many times. */
    Run times(int many, String call) {
        for (int i = 0; i < many; i++) {
            make(call);
        }
        return this;
    }

    /** A text comes to THE TAPE, four bytes at a time. */
    Run feed(String text) {
        for (int at = 0; at < text.length(); at += 4) {
            int n = Math.min(4, text.length() - at);
            int word = 0;
            for (int i = 0; i < n; i++) {
                word = (word << 8) | text.charAt(at + i);
            }
            make("feed(" + word + ", " + n + ")");
        }
        return this;
    }

    Run propose(int house, String text, int want) {
        feed(text);
        due.is(name + ": HOUSE " + house + " proposes '" + text + "'", ask("propose(" + house + ")"), want);
        return this;
    }

    /** Both HOUSES hold to the text then, so that it is THE LAW. */
    Run enact(String text) {
        feed(text).make("propose(0)");
        return propose(1, text, 1);
    }

    /** A call that is refused with the finding, and changes nothing but what found() tells. */
    Run refused(String call, int finding) {
        List<Call> before = List.copyOf(calls);
        due.is(name + ": " + call, ask(call), finding);
        int[] more = new int[6];
        more[Due.LOW - finding] = 1;
        sameBut(call, before, List.copyOf(calls), more);
        return this;
    }

    /** The call with each of the values in the place of '?' is refused so. */
    Run refusedWith(String call, int finding, int... values) {
        for (int value : values) {
            refused(call.replace("?", Integer.toString(value)), finding);
        }
        return this;
    }

    /** A number that is too small or too large, and the least and the greatest int. */
    Run refusedBeside(String call, int tooSmall, int tooLarge) {
        return refusedWith(call, Due.BEYOND, Integer.MIN_VALUE, tooSmall, tooLarge, Integer.MAX_VALUE);
    }

    /** Calls that tell something and change nothing, not even what found() tells. */
    Run changesNothing(String... some) {
        List<Call> before = List.copyOf(calls);
        make(some);
        sameBut(String.join(" ", some), before, List.copyOf(calls), new int[6]);
        return this;
    }

    /**
     * An act that must be answered so, and that changes what the changes tell ("count(0) = 4") and nothing else that
     * can be seen.
     */
    Run changes(String call, int want, String... changes) {
        Map<String, Integer> before = seen();
        due.is(name + ": " + call, ask(call), want);
        Map<String, Integer> after = seen();
        List<String> found = new ArrayList<>();
        for (String what : after.keySet()) {
            if (!after.get(what).equals(before.get(what))) {
                found.add(what + " = " + after.get(what));
            }
        }
        for (String what : before.keySet()) {
            if (!after.containsKey(what)) {
                found.add(what + " = gone");
            }
        }
        List<String> wanted = List.of(changes);
        for (String change : found) {
            due.holds(name + ": " + call + " changes " + change, wanted.contains(change));
        }
        for (String change : wanted) {
            due.holds(name + ": " + call + " doesn't change " + change, found.contains(change));
        }
        return this;
    }

    private Map<String, Integer> seen() {
        Map<String, Integer> answers = new LinkedHashMap<>();
        for (int part = 0; part < Look.PARTS; part++) {
            for (Look.Seen one : new Look(replay(calls), part).all()) {
                answers.put(one.what(), one.answer());
            }
        }
        return answers;
    }

    /** All that a text and its FAULT leave behind: nothing. */
    Run faulty(int house, String text, int fault) {
        List<Call> before = List.copyOf(calls);
        propose(house, text, -10 - fault);
        sameBut("'" + text + "'", before, List.copyOf(calls), new int[6]);
        return this;
    }

    private void sameBut(String what, List<Call> before, List<Call> after, int[] more) {
        for (int part = 0; part < Look.PARTS; part++) {
            List<Look.Seen> old = new Look(replay(before), part).all();
            List<Look.Seen> now = new Look(replay(after), part).all();
            due.holds(name + ": " + what + " lets other things be seen", old.size() == now.size());
            for (int i = 0; i < Math.min(old.size(), now.size()); i++) {
                int k = old.get(i).finding();
                due.is(name + ": " + old.get(i).what() + " behind " + what, now.get(i).answer(), old.get(i).answer() + more[k]);
            }
            due.holds(name + ": no more than 512 calls to look behind " + what, after.size() + now.size() <= MOST_CALLS);
        }
    }

    int size() {
        return calls.size();
    }

    /** A new object in the state to which the calls brought this one. */
    PartedLand again() {
        return replay(calls);
    }

    LandModel asModel() {
        LandModel model = new LandModel();
        for (Call call : calls) {
            call.on(model);
        }
        return model;
    }

    private static PartedLand replay(List<Call> some) {
        PartedLand other = new PartedLand();
        for (Call call : some) {
            call.on(other);
        }
        return other;
    }
}
