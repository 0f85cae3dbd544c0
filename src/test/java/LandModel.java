import java.util.ArrayList;
import java.util.Arrays;
import java.util.HashSet;
import java.util.List;
import java.util.Set;
import java.util.TreeSet;
import java.util.regex.Matcher;
import java.util.regex.Pattern;

/**
 * A second reading of the document, for ModelTest: it keeps what was told and
 * tries out all ways, without any of PartedLand's shortcuts.
 */
public final class LandModel {
    private static final int BEYOND = Due.BEYOND;
    private static final int NONE = Due.NONE;
    private static final int STATE = Due.STATE;
    private static final int FULL = Due.FULL;
    private static final int KIND = Due.KIND;
    private static final int NO_WAY = 1 << 20;
    private static final List<Set<Integer>> KINDS_UNDER = List.of(Set.of(0), Set.of(0, 1), Set.of(0, 1, 2), Set.of(0, 3),
        Set.of(0, 3, 4), Set.of(0, 3, 5), Set.of(0, 3, 6));
    private static final Pattern ROWS = Pattern.compile(
        "(?:p(?:" + grounds("", "chbw") + ");|k[0-9]{1,3};|s[0-9][0-9];|d[ls];|c[0-9];|u(?:[01][0-9]|2[0-4]);)*");

    private record Parish(int x, int y) {
    }

    private record Edge(int a, int b, int days, boolean rail) {
    }

    private record Person(int birth) {
    }

    private record Case(int court, int person, int stage, int paper) {
    }

    private record Stop(int parish, int day) {
    }

    private static final class Thing {
        private final int kind;
        private final int place;
        private int worth;
        private boolean copied;

        private Thing(int kind, int place, int worth) {
            this.kind = kind;
            this.place = place;
            this.worth = worth;
        }
    }

    private final List<Parish> parishes = new ArrayList<>();
    private final List<Edge> edges = new ArrayList<>();
    private final List<Parish> pegs = new ArrayList<>();
    private final int[] settled = new int[12];
    private final int[] seats = new int[2];
    private final List<Person> persons = new ArrayList<>();
    private final int[] homes = new int[16];
    private final int[][] months = new int[16][2];
    private final int[] choices = new int[16];
    private final int[] choiceDays = new int[16];
    private final int[] hoards = new int[16];
    private String tape = "";
    private final String[] held = new String[2];
    private String lawText = "";
    private int lawDay = 0;
    private final List<Thing> things = new ArrayList<>();
    private final List<int[]> ties = new ArrayList<>();
    private final int[] rates = {100, 100};
    private int limit = 9999;
    private int weekDays = 7;
    private final List<Integer> wagonSides = new ArrayList<>();
    private final List<List<Stop>> ways = new ArrayList<>();
    private int now = 0;
    private final List<Case> cases = new ArrayList<>();
    private final List<Integer> tasks = new ArrayList<>();
    private final Set<List<Integer>> aheads = new HashSet<>();
    private final List<Integer> waiting = new ArrayList<>();
    private final int[] findings = new int[6];
    private List<Integer> bestOrder;

    private static String grounds(String begun, String left) {
        StringBuilder all = new StringBuilder(begun);
        for (int i = 0; i < left.length(); i++) {
            String more = grounds(begun + left.charAt(i), left.substring(0, i) + left.substring(i + 1));
            all.append(all.length() == 0 ? "" : "|").append(more);
        }
        return all.toString();
    }

    private int tells(int finding) {
        findings[Due.LOW - finding]++;
        return finding;
    }

    private static boolean in(int value, int least, int most) {
        return least <= value && value <= most;
    }

    private static boolean of(List<?> list, int number) {
        return in(number, 0, list.size() - 1);
    }

    // ---- land

    public int parish(int x, int y) {
        if (!in(x, 0, 99) || !in(y, 0, 99)) {
            return tells(BEYOND);
        }
        if (parishes.size() == 12) {
            return tells(FULL);
        }
        parishes.add(new Parish(x, y));
        return parishes.size() - 1;
    }

    public int edge(int a, int b, int days, int rail) {
        if (!of(parishes, a) || !of(parishes, b) || a == b || !in(days, 1, 9) || !in(rail, 0, 1)) {
            return tells(BEYOND);
        }
        if (edges.size() == 30) {
            return tells(FULL);
        }
        edges.add(new Edge(a, b, days, rail == 1));
        return edges.size();
    }

    public int peg(int x, int y) {
        if (!in(x, 0, 99) || !in(y, 0, 99) || (!pegs.isEmpty() && pegs.get(pegs.size() - 1).y >= y)) {
            return tells(BEYOND);
        }
        if (pegs.size() == 8) {
            return tells(FULL);
        }
        pegs.add(new Parish(x, y));
        return pegs.size();
    }

    public int settle(int parish, int side) {
        if (!of(parishes, parish) || !in(side, 0, 1)) {
            return tells(BEYOND);
        }
        int was = settled[parish];
        settled[parish] = side;
        return was;
    }

    public int seat(int side, int parish) {
        if (!of(parishes, parish) || !in(side, 0, 1)) {
            return tells(BEYOND);
        }
        int was = seats[side];
        seats[side] = parish;
        return was;
    }

    public int side(int parish) {
        return of(parishes, parish) ? sideNow(parish) : tells(BEYOND);
    }

    private int sideNow(int parish) {
        int x = parishes.get(parish).x;
        int line = line(parishes.get(parish).y);
        return x < line ? 0 : x > line ? 1 : settled[parish];
    }

    private int line(int y) {
        if (pegs.isEmpty()) {
            return 50;
        }
        Parish below = null;
        Parish above = null;
        for (Parish peg : pegs) {
            if (peg.y <= y) {
                below = peg;
            }
            if (peg.y >= y && above == null) {
                above = peg;
            }
        }
        if (below == null) {
            return above.x;
        }
        if (above == null || above == below) {
            return below.x;
        }
        double exact = (double) (above.x - below.x) * (y - below.y) / (above.y - below.y);
        return below.x + (int) exact;
    }

    public int enclave(int parish) {
        return of(parishes, parish) ? (enclaveNow(parish) ? 1 : 0) : tells(BEYOND);
    }

    private boolean enclaveNow(int parish) {
        int side = sideNow(parish);
        Set<Integer> seen = new TreeSet<>();
        walk(parish, side, seen);
        return !seen.contains(seats[side]);
    }

    private void walk(int parish, int side, Set<Integer> seen) {
        if (sideNow(parish) != side || !seen.add(parish)) {
            return;
        }
        for (Edge e : edges) {
            if (e.a == parish) {
                walk(e.b, side, seen);
            }
            if (e.b == parish) {
                walk(e.a, side, seen);
            }
        }
    }

    public int far(int a, int b, int rail) {
        if (!of(parishes, a) || !of(parishes, b) || !in(rail, 0, 1)) {
            return tells(BEYOND);
        }
        int days = distances(rail == 1)[a][b];
        return days == NO_WAY ? tells(NONE) : days;
    }

    private int[][] distances(boolean rails) {
        int n = parishes.size();
        int[][] far = new int[n][n];
        for (int i = 0; i < n; i++) {
            Arrays.fill(far[i], NO_WAY);
            far[i][i] = 0;
        }
        for (Edge e : edges) {
            if (e.rail || !rails) {
                far[e.a][e.b] = Math.min(far[e.a][e.b], e.days);
                far[e.b][e.a] = far[e.a][e.b];
            }
        }
        for (int k = 0; k < n; k++) {
            for (int i = 0; i < n; i++) {
                for (int j = 0; j < n; j++) {
                    far[i][j] = Math.min(far[i][j], Math.min(NO_WAY, far[i][k] + far[k][j]));
                }
            }
        }
        return far;
    }

    // ---- persons, texts

    public int person(int birth, int home) {
        if (!of(parishes, birth) || !of(parishes, home)) {
            return tells(BEYOND);
        }
        if (persons.size() == 16) {
            return tells(FULL);
        }
        homes[persons.size()] = home;
        choices[persons.size()] = -1;
        persons.add(new Person(birth));
        return persons.size() - 1;
    }

    public int move(int person, int home) {
        if (!of(persons, person) || !of(parishes, home)) {
            return tells(BEYOND);
        }
        int was = homes[person];
        homes[person] = home;
        return was;
    }

    public int work(int person, int first, int second) {
        if (!of(persons, person) || !in(first, 0, 600) || !in(second, 0, 600)) {
            return tells(BEYOND);
        }
        months[person] = new int[] {first, second};
        return 1;
    }

    public int choose(int person, int side) {
        if (!of(persons, person) || !in(side, -1, 1)) {
            return tells(BEYOND);
        }
        int was = choices[person];
        choices[person] = side;
        choiceDays[person] = now;
        return was;
    }

    public int whose(int person, int by) {
        if (!of(persons, person) || !in(by, 0, 2)) {
            return tells(BEYOND);
        }
        if (by < 2 && held[by] == null) {
            return tells(STATE);
        }
        int owner = owner(person, by == 2 ? lawText : held[by]);
        return owner == -1 ? tells(NONE) : owner;
    }

    private int owner(int person, String text) {
        for (char ground : row(text, 'p', "hb").toCharArray()) {
            if (ground == 'c' && choices[person] >= 0 && choiceDays[person] <= number(text, 'k', "400")) {
                return choices[person];
            }
            if (ground == 'h') {
                return sideNow(homes[person]);
            }
            if (ground == 'b') {
                return sideNow(persons.get(person).birth);
            }
            if (ground == 'w' && months[person][0] != months[person][1]) {
                return months[person][0] < months[person][1] ? 1 : 0;
            }
        }
        return -1;
    }

    private static String row(String text, char letter, String otherwise) {
        String last = otherwise;
        for (String row : text.split(";")) {
            if (!row.isEmpty() && row.charAt(0) == letter) {
                last = row.substring(1);
            }
        }
        return last;
    }

    private static int number(String text, char letter, String otherwise) {
        return Integer.parseInt(row(text, letter, otherwise));
    }

    public int pension(int person, int sum, int side) {
        if (!of(persons, person) || !in(sum, 0, 100000) || !in(side, 0, 1)) {
            return tells(BEYOND);
        }
        long all = months[person][0] + months[person][1];
        int first = all == 0 ? sum / 2 : (int) ((long) sum * months[person][0] / all);
        return side == 0 ? first : sum - first;
    }

    public int feed(int word, int n) {
        if (!in(n, 1, 4)) {
            return tells(BEYOND);
        }
        if (tape.length() + n > 50) {
            return tells(FULL);
        }
        String hex = String.format("%08x", word).substring(8 - 2 * n);
        for (int i = 0; i < n; i++) {
            tape += (char) Integer.parseInt(hex.substring(2 * i, 2 * i + 2), 16);
        }
        return tape.length();
    }

    public int propose(int house) {
        if (!in(house, 0, 1)) {
            return tells(BEYOND);
        }
        String text = tape;
        tape = "";
        if (!ROWS.matcher(text).matches()) {
            return -10 - fault(text);
        }
        held[house] = text;
        if (held[0] != null && held[0].equals(held[1]) && !held[0].equals(lawText)) {
            lawText = held[0];
            lawDay = now;
        }
        return lawText.equals(text) ? 1 : 0;
    }

    private static int fault(String text) {
        for (int end = 1; end <= text.length(); end++) {
            Matcher matcher = ROWS.matcher(text.substring(0, end));
            if (!matcher.matches() && !matcher.hitEnd()) {
                return end - 1;
            }
        }
        return text.length();
    }

    public int law(int what) {
        if (!in(what, 0, 6)) {
            return tells(BEYOND);
        }
        return switch (what) {
            case 0 -> number(lawText, 'k', "400");
            case 1 -> number(lawText, 's', "50");
            case 2 -> debtsByLand() ? 1 : 0;
            case 3 -> number(lawText, 'c', "9");
            case 4 -> number(lawText, 'u', "12");
            case 5 -> row(lawText, 'p', "hb").length();
            default -> lawDay;
        };
    }

    private boolean debtsByLand() {
        return row(lawText, 'd', "s").equals("l");
    }

    public int differ() {
        if (held[0] == null || held[1] == null) {
            return tells(STATE);
        }
        byte[] first = held[0].getBytes(java.nio.charset.StandardCharsets.ISO_8859_1);
        byte[] second = held[1].getBytes(java.nio.charset.StandardCharsets.ISO_8859_1);
        return Arrays.mismatch(first, second);
    }

    // ---- things

    public int thing(int of, int worth) {
        int kind = of / 1000;
        int place = of % 1000;
        if (of < 0 || kind > 6 || !in(worth, 0, 10000)) {
            return tells(BEYOND);
        }
        boolean right = switch (kind) {
            case 1, 2 -> of(parishes, place);
            case 5 -> of(things, place) && in(things.get(place).kind, 1, 2);
            default -> place == 0;
        };
        if (!right) {
            return tells(BEYOND);
        }
        if (things.size() == 24) {
            return tells(FULL);
        }
        things.add(new Thing(kind, place, worth));
        return things.size() - 1;
    }

    private boolean isOf(int thing, int kind) {
        return KINDS_UNDER.get(things.get(thing).kind).contains(kind);
    }

    public int as(int thing, int kind) {
        if (!of(things, thing) || !in(kind, 0, 6)) {
            return tells(BEYOND);
        }
        return isOf(thing, kind) ? things.get(thing).worth : tells(KIND);
    }

    public int tie(int a, int b) {
        if (!of(things, a) || !of(things, b) || a == b) {
            return tells(BEYOND);
        }
        if (!isOf(a, 3) || !isOf(b, 3)) {
            return tells(KIND);
        }
        if (ties.size() == 12) {
            return tells(FULL);
        }
        ties.add(new int[] {a, b});
        return ties.size();
    }

    public int part(int thing, int worth) {
        if (!of(things, thing) || worth < 1) {
            return tells(BEYOND);
        }
        if (!isOf(thing, 3)) {
            return tells(KIND);
        }
        Thing whole = things.get(thing);
        if (whole.worth <= worth) {
            return tells(STATE);
        }
        if (things.size() == 24) {
            return tells(FULL);
        }
        whole.worth -= worth;
        things.add(new Thing(whole.kind, whole.place, worth));
        return things.size() - 1;
    }

    private boolean isParted(int thing) {
        return isOf(thing, 3) && !(things.get(thing).kind == 5 && debtsByLand());
    }

    /** GROUPS in the order of their least THINGS. */
    private List<Set<Integer>> groups() {
        List<Set<Integer>> all = new ArrayList<>();
        Set<Integer> seen = new HashSet<>();
        for (int i = 0; i < things.size(); i++) {
            if (isParted(i) && !seen.contains(i)) {
                Set<Integer> tied = new TreeSet<>();
                follow(i, tied);
                tied.removeIf(one -> !isParted(one));
                seen.addAll(tied);
                all.add(tied);
            }
        }
        return all;
    }

    private void follow(int thing, Set<Integer> tied) {
        if (!tied.add(thing)) {
            return;
        }
        for (int[] tie : ties) {
            if (tie[0] == thing) {
                follow(tie[1], tied);
            }
            if (tie[1] == thing) {
                follow(tie[0], tied);
            }
        }
    }

    private int worthOf(Set<Integer> group) {
        int sum = 0;
        for (int one : group) {
            sum += things.get(one).kind == 5 ? -things.get(one).worth : things.get(one).worth;
        }
        return sum;
    }

    private int allWorths() {
        int sum = 0;
        for (Set<Integer> group : groups()) {
            sum += worthOf(group);
        }
        return sum;
    }

    private int aim() {
        return (int) (allWorths() * (long) number(lawText, 's', "50") / 100);
    }

    /** The SIDE of each GROUP, as a text of 0 and 1: the nearest, of several the least text. */
    private String sides() {
        List<Integer> worths = new ArrayList<>();
        for (Set<Integer> group : groups()) {
            worths.add(worthOf(group));
        }
        String[] best = {null};
        int[] off = {Integer.MAX_VALUE};
        tryAll("", 0, worths, aim(), best, off);
        return best[0];
    }

    private static void tryAll(String sides, int sum, List<Integer> worths, int aim, String[] best, int[] off) {
        if (sides.length() < worths.size()) {
            tryAll(sides + "1", sum, worths, aim, best, off);
            tryAll(sides + "0", sum + worths.get(sides.length()), worths, aim, best, off);
            return;
        }
        int here = Math.abs(aim - sum);
        if (here < off[0] || (here == off[0] && sides.compareTo(best[0]) < 0)) {
            off[0] = here;
            best[0] = sides;
        }
    }

    private int partedSide(int thing) {
        List<Set<Integer>> groups = groups();
        for (int i = 0; i < groups.size(); i++) {
            if (groups.get(i).contains(thing)) {
                return sides().charAt(i) - '0';
            }
        }
        throw new IllegalStateException("not parted");
    }

    public int goes(int thing) {
        if (!of(things, thing)) {
            return tells(BEYOND);
        }
        Thing one = things.get(thing);
        if (one.kind == 0) {
            return tells(NONE);
        }
        if (one.kind == 1) {
            return sideNow(one.place);
        }
        if (one.kind == 2) {
            return 2;
        }
        if (!isParted(thing)) {
            return sideNow(things.get(one.place).place);
        }
        return groups().size() > 14 ? tells(STATE) : partedSide(thing);
    }

    public int rest(int what) {
        if (!in(what, 0, 2)) {
            return tells(BEYOND);
        }
        List<Set<Integer>> groups = groups();
        if (what == 2) {
            return groups.size();
        }
        if (groups.size() > 14) {
            return tells(STATE);
        }
        if (what == 1) {
            return allWorths();
        }
        int rest = aim();
        String sides = sides();
        for (int i = 0; i < groups.size(); i++) {
            rest -= sides.charAt(i) == '0' ? worthOf(groups.get(i)) : 0;
        }
        return rest;
    }

    // ---- coin, wagons

    public int hoard(int person, int coin) {
        if (!of(persons, person) || !in(coin, 0, 9999)) {
            return tells(BEYOND);
        }
        int was = hoards[person];
        hoards[person] = coin;
        return was;
    }

    public int week(int both, int most, int days) {
        int first = Math.floorDiv(both, 1000);
        int second = Math.floorMod(both, 1000);
        if (!in(first, 1, 200) || !in(second, 1, 200) || !in(most, 0, 9999) || !in(days, 0, 9)) {
            return tells(BEYOND);
        }
        rates[0] = first;
        rates[1] = second;
        limit = most;
        weekDays = days;
        return 1;
    }

    public int stamp(int side, int what) {
        if (!in(side, 0, 1) || !in(what, 0, 2)) {
            return tells(BEYOND);
        }
        int[] sums = new int[3];
        int[][] far = distances(false);
        for (int i = 0; i < persons.size(); i++) {
            int[] there = new int[2];
            int own = sideNow(homes[i]);
            boolean near = false;
            for (int parish = 0; parish < parishes.size(); parish++) {
                near |= sideNow(parish) != own && far[homes[i]][parish] <= weekDays;
            }
            int carried = near && rates[own] < rates[1 - own] ? Math.min(limit, hoards[i]) : 0;
            there[own] = hoards[i] - carried;
            there[1 - own] = carried;
            sums[0] += there[side] * rates[side] / 100;
            sums[1] += there[side];
            sums[2] += own == side ? 0 : carried;
        }
        return sums[what];
    }

    public int wagon(int side, int parish) {
        if (!of(parishes, parish) || !in(side, 0, 1)) {
            return tells(BEYOND);
        }
        if (ways.size() == 10) {
            return tells(FULL);
        }
        wagonSides.add(side);
        ways.add(List.of(new Stop(parish, now)));
        return ways.size() - 1;
    }

    public int send(int wagon, int parish) {
        if (!of(ways, wagon) || !of(parishes, parish)) {
            return tells(BEYOND);
        }
        int from = placeOn(wagon, now);
        int days = distances(true)[from][parish];
        if (days == NO_WAY) {
            return tells(NONE);
        }
        List<Stop> way = new ArrayList<>(List.of(new Stop(from, now)));
        if (!leastWay(way, parish, now + days)) {
            throw new IllegalStateException("no way");
        }
        ways.set(wagon, way);
        return now + days;
    }

    /** Goes on by the least PARISH that lets it come there on the day; steps back where none does. */
    private boolean leastWay(List<Stop> way, int aim, int day) {
        Stop last = way.get(way.size() - 1);
        if (last.parish == aim) {
            return last.day == day;
        }
        for (int next = 0; next < parishes.size(); next++) {
            for (Edge e : edges) {
                boolean leads = e.rail && (e.a == last.parish && e.b == next || e.b == last.parish && e.a == next);
                if (!leads || last.day + e.days > day) {
                    continue;
                }
                way.add(new Stop(next, last.day + e.days));
                if (leastWay(way, aim, day)) {
                    return true;
                }
                way.remove(way.size() - 1);
            }
        }
        return false;
    }

    private int placeOn(int wagon, int day) {
        int place = -1;
        for (Stop stop : ways.get(wagon)) {
            if (stop.day <= day) {
                place = stop.parish;
            }
        }
        return place;
    }

    public int where(int wagon, int day) {
        return of(ways, wagon) && in(day, now, 400) ? placeOn(wagon, day) : tells(BEYOND);
    }

    public int home(int wagon) {
        if (!of(ways, wagon)) {
            return tells(BEYOND);
        }
        int[] far = distances(true)[placeOn(wagon, now)];
        for (int parish = 0; parish < parishes.size(); parish++) {
            if (sideNow(parish) == wagonSides.get(wagon) && now + far[parish] <= 365) {
                return 1;
            }
        }
        return 0;
    }

    public int day(int day) {
        if (!in(day, now, 400)) {
            return tells(BEYOND);
        }
        int gone = day - now;
        now = day;
        return gone;
    }

    // ---- cases, tasks

    public int open(int court, int person, int stage, int paper) {
        if (!of(parishes, court) || !of(persons, person) || !in(stage, 1, 9) || !(paper == -1 || of(things, paper))) {
            return tells(BEYOND);
        }
        if (paper >= 0 && things.get(paper).kind != 4) {
            return tells(KIND);
        }
        if (cases.size() == 10) {
            return tells(FULL);
        }
        cases.add(new Case(court, person, stage, paper));
        return cases.size() - 1;
    }

    public int copy(int paper) {
        if (!of(things, paper)) {
            return tells(BEYOND);
        }
        if (things.get(paper).kind != 4) {
            return tells(KIND);
        }
        if (things.get(paper).copied) {
            return tells(STATE);
        }
        things.get(paper).copied = true;
        return 1;
    }

    public int court(int one) {
        return of(cases, one) ? courtSide(cases.get(one)) : tells(BEYOND);
    }

    private int courtSide(Case one) {
        int own = sideNow(one.court);
        if (one.stage >= number(lawText, 'c', "9")) {
            return own;
        }
        int owner = owner(one.person, lawText);
        return owner == -1 ? own : owner;
    }

    public int waits(int one) {
        if (!of(cases, one)) {
            return tells(BEYOND);
        }
        Case c = cases.get(one);
        if (c.paper == -1 || things.get(c.paper).copied) {
            return tells(NONE);
        }
        if (groups().size() > 14) {
            return tells(STATE);
        }
        return partedSide(c.paper) != courtSide(c) ? c.paper : tells(NONE);
    }

    public int task(int days) {
        if (!in(days, 1, 200)) {
            return tells(BEYOND);
        }
        if (tasks.size() == 9) {
            return tells(FULL);
        }
        tasks.add(days);
        return tasks.size() - 1;
    }

    public int ahead(int task, int other) {
        if (!of(tasks, task) || !of(tasks, other) || task == other) {
            return tells(BEYOND);
        }
        return aheads.add(List.of(task, other)) ? 1 : tells(STATE);
    }

    public int best(int what) {
        if (what < -2) {
            return tells(BEYOND);
        }
        bestOrder = List.of();
        tryOrders(new ArrayList<>());
        if (what == -1) {
            return bestOrder.size();
        }
        if (what == -2) {
            return daysOf(bestOrder);
        }
        return what < bestOrder.size() ? bestOrder.get(what) : tells(NONE);
    }

    private int daysOf(List<Integer> order) {
        int sum = 0;
        for (int task : order) {
            sum += tasks.get(task);
        }
        return sum;
    }

    private void tryOrders(List<Integer> order) {
        if (daysOf(order) > 365 - now) {
            return;
        }
        if (isBetter(order)) {
            bestOrder = List.copyOf(order);
        }
        for (int task = 0; task < tasks.size(); task++) {
            if (!order.contains(task) && canFollow(order, task)) {
                order.add(task);
                tryOrders(order);
                order.remove(order.size() - 1);
            }
        }
    }

    private boolean canFollow(List<Integer> order, int task) {
        for (List<Integer> pair : aheads) {
            if (pair.get(1) == task && !order.contains(pair.get(0))) {
                return false;
            }
        }
        return true;
    }

    private boolean isBetter(List<Integer> order) {
        if (order.size() != bestOrder.size()) {
            return order.size() > bestOrder.size();
        }
        if (daysOf(order) != daysOf(bestOrder)) {
            return daysOf(order) < daysOf(bestOrder);
        }
        return order.toString().compareTo(bestOrder.toString()) < 0;
    }

    // ---- what is told

    public int tell(int v) {
        if (waiting.size() == 16) {
            return tells(FULL);
        }
        waiting.add(v);
        return waiting.size();
    }

    public int check() {
        List<Integer> told = new ArrayList<>(waiting);
        waiting.clear();
        for (int i = 0; i < told.size(); i++) {
            if (!of(persons, i) || told.get(i) != owner(i, lawText)) {
                return i + 1;
            }
        }
        return 0;
    }

    public int count(int what) {
        if (!in(what, 0, 13)) {
            return tells(BEYOND);
        }
        int enclaves = 0;
        for (int i = 0; i < parishes.size(); i++) {
            enclaves += enclaveNow(i) ? 1 : 0;
        }
        int nobodys = 0;
        for (int i = 0; i < persons.size(); i++) {
            nobodys += owner(i, lawText) == -1 ? 1 : 0;
        }
        int[] all = {parishes.size(), edges.size(), pegs.size(), persons.size(), things.size(), ties.size(), ways.size(),
            cases.size(), tasks.size(), tape.length(), now, waiting.size(), enclaves, nobodys};
        return all[what];
    }

    public int found(int k) {
        return in(k, 1, 5) ? findings[k] : tells(BEYOND);
    }
}
