import java.util.Arrays;

/**
 * One land that becomes two. The calls of the face test their arguments and
 * tell findings; the classes inside hold the state and reckon with it. Every
 * row is made with the object, so that no later call makes anything.
 */
public final class PartedLand {
    private static final int LOW = -1000000000;
    private static final int BEYOND = LOW - 1;
    private static final int NONE = LOW - 2;
    private static final int STATE = LOW - 3;
    private static final int FULL = LOW - 4;
    private static final int KIND = LOW - 5;
    private static final int MOST_FINDINGS = 5;

    private static final int LAST_DAY = 400;
    private static final int NEW_YEAR = 365;
    private static final int MOST_WAITING = 16;
    private static final int BY_THE_LAW = 2;
    private static final int MOST_PENSION = 100000;

    private final Land land = new Land();
    private final People people = new People();
    private final Houses houses = new Houses();
    private final Estate estate = new Estate();
    private final Parting parting = new Parting();
    private final Week coinWeek = new Week();
    private final Wagons wagons = new Wagons();
    private final Cases cases = new Cases();
    private final Tasks tasks = new Tasks();
    private final int[] findings = new int[MOST_FINDINGS + 1];
    private final int[] waiting = new int[MOST_WAITING];
    private int waitingCount = 0;
    private int today = 0;

    public PartedLand() {
    }

    // ---- land

    public int parish(int x, int y) {
        if (!Land.isOnMap(x) || !Land.isOnMap(y)) {
            return finding(BEYOND);
        }
        if (land.parishes >= Land.MOST_PARISHES) {
            return finding(FULL);
        }
        return land.addParish(x, y);
    }

    public int edge(int a, int b, int days, int rail) {
        if (!land.hasParish(a) || !land.hasParish(b) || a == b) {
            return finding(BEYOND);
        }
        if (days < 1 || days > Land.MOST_EDGE_DAYS || !isZeroOrOne(rail)) {
            return finding(BEYOND);
        }
        if (land.edges >= Land.MOST_EDGES) {
            return finding(FULL);
        }
        return land.addEdge(a, b, days, rail == 1);
    }

    public int peg(int x, int y) {
        if (!Land.isOnMap(x) || !Land.isOnMap(y) || !land.isAbovePegs(y)) {
            return finding(BEYOND);
        }
        if (land.pegs >= Land.MOST_PEGS) {
            return finding(FULL);
        }
        return land.addPeg(x, y);
    }

    public int settle(int parish, int side) {
        if (!land.hasParish(parish) || !isZeroOrOne(side)) {
            return finding(BEYOND);
        }
        int before = land.settled[parish];
        land.settled[parish] = side;
        return before;
    }

    public int seat(int side, int parish) {
        if (!isZeroOrOne(side) || !land.hasParish(parish)) {
            return finding(BEYOND);
        }
        int before = land.seats[side];
        land.seats[side] = parish;
        return before;
    }

    public int side(int parish) {
        if (!land.hasParish(parish)) {
            return finding(BEYOND);
        }
        return land.sideOf(parish);
    }

    public int enclave(int parish) {
        if (!land.hasParish(parish)) {
            return finding(BEYOND);
        }
        return land.isEnclave(parish) ? 1 : 0;
    }

    public int far(int a, int b, int rail) {
        if (!land.hasParish(a) || !land.hasParish(b) || !isZeroOrOne(rail)) {
            return finding(BEYOND);
        }
        land.measureFrom(a, rail == 1);
        int days = land.away[b];
        return days >= Land.UNREACHED ? finding(NONE) : days;
    }

    // ---- persons, texts

    public int person(int birth, int home) {
        if (!land.hasParish(birth) || !land.hasParish(home)) {
            return finding(BEYOND);
        }
        if (people.persons >= People.MOST_PERSONS) {
            return finding(FULL);
        }
        return people.addPerson(birth, home);
    }

    public int move(int person, int home) {
        if (!people.hasPerson(person) || !land.hasParish(home)) {
            return finding(BEYOND);
        }
        int before = people.homes[person];
        people.homes[person] = home;
        return before;
    }

    public int work(int person, int first, int second) {
        if (!people.hasPerson(person) || !People.areMonths(first) || !People.areMonths(second)) {
            return finding(BEYOND);
        }
        people.firstMonths[person] = first;
        people.secondMonths[person] = second;
        return 1;
    }

    public int choose(int person, int side) {
        if (!people.hasPerson(person) || side < -1 || side > 1) {
            return finding(BEYOND);
        }
        int before = people.choices[person];
        people.choices[person] = side;
        people.choiceDays[person] = today;
        return before;
    }

    public int whose(int person, int by) {
        if (!people.hasPerson(person) || by < 0 || by > BY_THE_LAW) {
            return finding(BEYOND);
        }
        if (by != BY_THE_LAW && !houses.hasProposed(by)) {
            return finding(STATE);
        }
        Text text = by == BY_THE_LAW ? houses.law : houses.heldBy(by);
        int owner = people.ownerBy(text, person, land);
        return owner < 0 ? finding(NONE) : owner;
    }

    public int pension(int person, int sum, int side) {
        if (!people.hasPerson(person) || sum < 0 || sum > MOST_PENSION || !isZeroOrOne(side)) {
            return finding(BEYOND);
        }
        int first = people.firstPartOfPension(person, sum);
        return side == 0 ? first : sum - first;
    }

    public int feed(int word, int n) {
        if (n < 1 || n > 4) {
            return finding(BEYOND);
        }
        if (houses.tape.length + n > Text.MOST_BYTES) {
            return finding(FULL);
        }
        for (int i = n - 1; i >= 0; i--) {
            houses.tape.append((word >>> (8 * i)) & 255);
        }
        return houses.tape.length;
    }

    public int propose(int house) {
        if (!isZeroOrOne(house)) {
            return finding(BEYOND);
        }
        int fault = houses.takeTape(house);
        if (fault >= 0) {
            return -10 - fault;
        }
        if (houses.enactFrom(today)) {
            parting.forgetAll();
        }
        return houses.law.isSameAs(houses.heldBy(house)) ? 1 : 0;
    }

    public int law(int what) {
        switch (what) {
            case 0:
                return houses.law.lastChoiceDay;
            case 1:
                return houses.law.share;
            case 2:
                return houses.law.debtsByLand ? 1 : 0;
            case 3:
                return houses.law.courtStage;
            case 4:
                return houses.law.hours;
            case 5:
                return houses.law.groundCount;
            case 6:
                return houses.lawSince;
            default:
                return finding(BEYOND);
        }
    }

    public int differ() {
        if (!houses.hasProposed(0) || !houses.hasProposed(1)) {
            return finding(STATE);
        }
        return houses.heldBy(0).firstUnlike(houses.heldBy(1));
    }

    // ---- things

    public int thing(int of, int worth) {
        if (of < 0 || worth < 0 || worth > Estate.MOST_WORTH) {
            return finding(BEYOND);
        }
        int kind = of / 1000;
        int place = of % 1000;
        if (!Estate.isKind(kind) || !isPlaceOf(kind, place)) {
            return finding(BEYOND);
        }
        if (estate.things >= Estate.MOST_THINGS) {
            return finding(FULL);
        }
        parting.forgetAll();
        return estate.addThing(kind, place, worth);
    }

    public int as(int thing, int kind) {
        if (!estate.hasThing(thing) || !Estate.isKind(kind)) {
            return finding(BEYOND);
        }
        return estate.isOf(thing, kind) ? estate.worths[thing] : finding(KIND);
    }

    public int tie(int a, int b) {
        if (!estate.hasThing(a) || !estate.hasThing(b) || a == b) {
            return finding(BEYOND);
        }
        if (!estate.isOf(a, Estate.MOVED) || !estate.isOf(b, Estate.MOVED)) {
            return finding(KIND);
        }
        if (estate.ties >= Estate.MOST_TIES) {
            return finding(FULL);
        }
        parting.forgetAll();
        return estate.addTie(a, b);
    }

    public int part(int thing, int worth) {
        if (!estate.hasThing(thing) || worth < 1) {
            return finding(BEYOND);
        }
        if (!estate.isOf(thing, Estate.MOVED)) {
            return finding(KIND);
        }
        if (worth >= estate.worths[thing]) {
            return finding(STATE);
        }
        if (estate.things >= Estate.MOST_THINGS) {
            return finding(FULL);
        }
        parting.forgetAll();
        estate.worths[thing] -= worth;
        return estate.addThing(estate.kinds[thing], estate.places[thing], worth);
    }

    public int goes(int thing) {
        if (!estate.hasThing(thing)) {
            return finding(BEYOND);
        }
        int kind = estate.kinds[thing];
        if (kind == Estate.THING) {
            return finding(NONE);
        }
        if (kind == Estate.USE) {
            return 2;
        }
        if (kind == Estate.FIXED) {
            return land.sideOf(estate.places[thing]);
        }
        if (estate.isLeftOut(thing, houses.law.debtsByLand)) {
            return land.sideOf(estate.pledgeParish(thing));
        }
        partThings();
        return parting.isTooMany() ? finding(STATE) : parting.sideOfThing(thing);
    }

    public int rest(int what) {
        if (what < 0 || what > 2) {
            return finding(BEYOND);
        }
        partThings();
        if (what == 2) {
            return parting.groups;
        }
        if (parting.isTooMany()) {
            return finding(STATE);
        }
        return what == 0 ? parting.rest : parting.total;
    }

    // ---- coin, wagons

    public int hoard(int person, int coin) {
        if (!people.hasPerson(person) || coin < 0 || coin > Week.MOST_COIN) {
            return finding(BEYOND);
        }
        int before = people.hoards[person];
        people.hoards[person] = coin;
        return before;
    }

    public int week(int rates, int limit, int days) {
        if (!Week.isRate(rates / 1000) || !Week.isRate(rates % 1000)) {
            return finding(BEYOND);
        }
        if (limit < 0 || limit > Week.MOST_COIN || days < 0 || days > Week.MOST_DAYS) {
            return finding(BEYOND);
        }
        coinWeek.firstRate = rates / 1000;
        coinWeek.secondRate = rates % 1000;
        coinWeek.limit = limit;
        coinWeek.dayCount = days;
        return 1;
    }

    public int stamp(int side, int what) {
        if (!isZeroOrOne(side) || what < 0 || what > 2) {
            return finding(BEYOND);
        }
        int sum = 0;
        for (int person = 0; person < people.persons; person++) {
            int coin = what == 2
                ? coinWeek.broughtBy(person, side, people, land)
                : coinWeek.coinOf(person, side, people, land);
            sum += what == 0 ? coinWeek.stampedOf(coin, side) : coin;
        }
        return sum;
    }

    public int wagon(int side, int parish) {
        if (!isZeroOrOne(side) || !land.hasParish(parish)) {
            return finding(BEYOND);
        }
        if (wagons.wagons >= Wagons.MOST_WAGONS) {
            return finding(FULL);
        }
        return wagons.addWagon(side, parish, today);
    }

    public int send(int wagon, int parish) {
        if (!wagons.hasWagon(wagon) || !land.hasParish(parish)) {
            return finding(BEYOND);
        }
        int arrival = wagons.route(wagon, parish, today, land);
        return arrival < 0 ? finding(NONE) : arrival;
    }

    public int where(int wagon, int day) {
        if (!wagons.hasWagon(wagon) || day < today || day > LAST_DAY) {
            return finding(BEYOND);
        }
        return wagons.placeOn(wagon, day);
    }

    public int home(int wagon) {
        if (!wagons.hasWagon(wagon)) {
            return finding(BEYOND);
        }
        int here = wagons.placeOn(wagon, today);
        int days = land.daysToSide(here, wagons.owners[wagon], true);
        return today + days <= NEW_YEAR ? 1 : 0;
    }

    public int day(int day) {
        if (day < today || day > LAST_DAY) {
            return finding(BEYOND);
        }
        int gone = day - today;
        today = day;
        return gone;
    }

    // ---- cases, tasks

    public int open(int court, int person, int stage, int paper) {
        if (!land.hasParish(court) || !people.hasPerson(person)) {
            return finding(BEYOND);
        }
        if (stage < 1 || stage > Cases.MOST_STAGE) {
            return finding(BEYOND);
        }
        if (paper != Cases.NO_PAPER && !estate.hasThing(paper)) {
            return finding(BEYOND);
        }
        if (paper != Cases.NO_PAPER && !estate.isOf(paper, Estate.PAPER)) {
            return finding(KIND);
        }
        if (cases.cases >= Cases.MOST_CASES) {
            return finding(FULL);
        }
        return cases.addCase(court, person, stage, paper);
    }

    public int copy(int paper) {
        if (!estate.hasThing(paper)) {
            return finding(BEYOND);
        }
        if (!estate.isOf(paper, Estate.PAPER)) {
            return finding(KIND);
        }
        if (estate.copied[paper]) {
            return finding(STATE);
        }
        estate.copied[paper] = true;
        return 1;
    }

    public int court(int one) {
        if (!cases.hasCase(one)) {
            return finding(BEYOND);
        }
        return cases.sideOfCase(one, houses.law, people, land);
    }

    public int waits(int one) {
        if (!cases.hasCase(one)) {
            return finding(BEYOND);
        }
        int paper = cases.papers[one];
        if (!estate.hasThing(paper) || estate.copied[paper]) {
            return finding(NONE);
        }
        partThings();
        if (parting.isTooMany()) {
            return finding(STATE);
        }
        int with = cases.sideOfCase(one, houses.law, people, land);
        return parting.sideOfThing(paper) == with ? finding(NONE) : paper;
    }

    public int task(int days) {
        if (days < 1 || days > Tasks.MOST_TASK_DAYS) {
            return finding(BEYOND);
        }
        if (tasks.tasks >= Tasks.MOST_TASKS) {
            return finding(FULL);
        }
        return tasks.addTask(days);
    }

    public int ahead(int task, int other) {
        if (!tasks.hasTask(task) || !tasks.hasTask(other) || task == other) {
            return finding(BEYOND);
        }
        if (tasks.isAhead(task, other)) {
            return finding(STATE);
        }
        tasks.putAhead(task, other);
        return 1;
    }

    public int best(int what) {
        if (what < -2) {
            return finding(BEYOND);
        }
        tasks.findBest(NEW_YEAR - today);
        if (what == -1) {
            return tasks.bestCount;
        }
        if (what == -2) {
            return tasks.bestDays;
        }
        return what < tasks.bestCount ? tasks.bestOrder[what] : finding(NONE);
    }

    // ---- what is told

    public int tell(int v) {
        if (waitingCount >= MOST_WAITING) {
            return finding(FULL);
        }
        waiting[waitingCount] = v;
        waitingCount++;
        return waitingCount;
    }

    public int check() {
        int told = waitingCount;
        waitingCount = 0;
        for (int i = 0; i < told; i++) {
            if (!people.hasPerson(i) || people.ownerBy(houses.law, i, land) != waiting[i]) {
                return 1 + i;
            }
        }
        return 0;
    }

    public int count(int what) {
        switch (what) {
            case 0:
                return land.parishes;
            case 1:
                return land.edges;
            case 2:
                return land.pegs;
            case 3:
                return people.persons;
            case 4:
                return estate.things;
            case 5:
                return estate.ties;
            case 6:
                return wagons.wagons;
            case 7:
                return cases.cases;
            case 8:
                return tasks.tasks;
            case 9:
                return houses.tape.length;
            case 10:
                return today;
            case 11:
                return waitingCount;
            case 12:
                return land.enclaves();
            case 13:
                return people.nobodysBy(houses.law, land);
            default:
                return finding(BEYOND);
        }
    }

    public int found(int k) {
        if (k < 1 || k > MOST_FINDINGS) {
            return finding(BEYOND);
        }
        return findings[k];
    }

    // ---- what the calls share

    private int finding(int what) {
        int k = LOW - what;
        if (k >= 1 && k <= MOST_FINDINGS) {
            findings[k]++;
        }
        return what;
    }

    private static boolean isZeroOrOne(int value) {
        return value == 0 || value == 1;
    }

    private boolean isPlaceOf(int kind, int place) {
        if (Estate.isUnder(kind, Estate.FIXED)) {
            return land.hasParish(place);
        }
        if (kind == Estate.DEBT) {
            return estate.hasThing(place) && estate.isOf(place, Estate.FIXED);
        }
        return place == 0;
    }

    /** THE PARTING is dear, so it stands till a thing, a tie or THE LAW changes. */
    private void partThings() {
        if (!parting.isKnown) {
            parting.reckon(estate, houses.law);
        }
    }

    /** PARISHES, EDGES, THE LINE of PEGS and the SEATS. */
    private static final class Land {
        static final int MOST_PARISHES = 12;
        static final int MOST_EDGES = 30;
        static final int MOST_EDGE_DAYS = 9;
        static final int MOST_PEGS = 8;
        static final int MOST_PLACE = 99;
        static final int LINE_WITHOUT_PEGS = 50;
        /** Above every sum of days, and small enough to be added to. */
        static final int UNREACHED = 1000000;

        final int[] xs = new int[MOST_PARISHES];
        final int[] ys = new int[MOST_PARISHES];
        final int[] settled = new int[MOST_PARISHES];
        final int[] seats = new int[2];
        final int[] ends = new int[MOST_EDGES];
        final int[] otherEnds = new int[MOST_EDGES];
        final int[] edgeDays = new int[MOST_EDGES];
        final boolean[] rails = new boolean[MOST_EDGES];
        final int[] pegXs = new int[MOST_PEGS];
        final int[] pegYs = new int[MOST_PEGS];
        /** Days from the PARISH that was measured from latest. */
        final int[] away = new int[MOST_PARISHES];
        int parishes = 0;
        int edges = 0;
        int pegs = 0;

        static boolean isOnMap(int place) {
            return place >= 0 && place <= MOST_PLACE;
        }

        boolean hasParish(int parish) {
            return parish >= 0 && parish < parishes;
        }

        int addParish(int x, int y) {
            xs[parishes] = x;
            ys[parishes] = y;
            parishes++;
            return parishes - 1;
        }

        int addEdge(int a, int b, int days, boolean rail) {
            ends[edges] = a;
            otherEnds[edges] = b;
            edgeDays[edges] = days;
            rails[edges] = rail;
            edges++;
            return edges;
        }

        boolean isAbovePegs(int y) {
            return pegs == 0 || y > pegYs[pegs - 1];
        }

        int addPeg(int x, int y) {
            pegXs[pegs] = x;
            pegYs[pegs] = y;
            pegs++;
            return pegs;
        }

        int lineAt(int y) {
            if (pegs == 0) {
                return LINE_WITHOUT_PEGS;
            }
            if (y <= pegYs[0]) {
                return pegXs[0];
            }
            for (int i = 1; i < pegs; i++) {
                if (y <= pegYs[i]) {
                    return lineBetween(i - 1, i, y);
                }
            }
            return pegXs[pegs - 1];
        }

        int lineBetween(int a, int b, int y) {
            int height = pegYs[b] - pegYs[a];
            if (height <= 0) {
                return pegXs[a];
            }
            return pegXs[a] + (pegXs[b] - pegXs[a]) * (y - pegYs[a]) / height;
        }

        int sideOf(int parish) {
            int line = lineAt(ys[parish]);
            if (xs[parish] == line) {
                return settled[parish];
            }
            return xs[parish] < line ? 0 : 1;
        }

        boolean isEnclave(int parish) {
            int side = sideOf(parish);
            int own = parishesOf(side);
            int seat = 1 << seats[side];
            return (own & seat) == 0 || (reachedWithin(own, 1 << parish) & seat) == 0;
        }

        int enclaves() {
            int sum = 0;
            for (int parish = 0; parish < parishes; parish++) {
                if (isEnclave(parish)) {
                    sum++;
                }
            }
            return sum;
        }

        /** The set, a bit for each PARISH. */
        int parishesOf(int side) {
            int set = 0;
            for (int parish = 0; parish < parishes; parish++) {
                if (sideOf(parish) == side) {
                    set |= 1 << parish;
                }
            }
            return set;
        }

        int reachedWithin(int allowed, int start) {
            int reached = start;
            for (int round = 1; round < parishes; round++) {
                int before = reached;
                for (int edge = 0; edge < edges; edge++) {
                    int both = (1 << ends[edge]) | (1 << otherEnds[edge]);
                    if ((both & ~allowed) == 0 && (both & reached) != 0) {
                        reached |= both;
                    }
                }
                if (reached == before) {
                    break;
                }
            }
            return reached;
        }

        void measureFrom(int start, boolean railsOnly) {
            Arrays.fill(away, UNREACHED);
            away[start] = 0;
            // No way of the fewest days has more EDGES than there are other PARISHES.
            for (int round = 1; round < parishes; round++) {
                if (!shorten(railsOnly)) {
                    break;
                }
            }
        }

        boolean shorten(boolean railsOnly) {
            boolean changed = false;
            for (int edge = 0; edge < edges; edge++) {
                if (railsOnly && !rails[edge]) {
                    continue;
                }
                int a = ends[edge];
                int b = otherEnds[edge];
                if (away[a] + edgeDays[edge] < away[b]) {
                    away[b] = away[a] + edgeDays[edge];
                    changed = true;
                } else if (away[b] + edgeDays[edge] < away[a]) {
                    away[a] = away[b] + edgeDays[edge];
                    changed = true;
                }
            }
            return changed;
        }

        int daysToSide(int from, int side, boolean railsOnly) {
            measureFrom(from, railsOnly);
            int days = UNREACHED;
            for (int parish = 0; parish < parishes; parish++) {
                if (sideOf(parish) == side) {
                    days = Math.min(days, away[parish]);
                }
            }
            return days;
        }

        /** The least PARISH that lies next on a shortest way by RAILS to what was measured from; -1: none. */
        int nextStop(int here) {
            int next = -1;
            for (int edge = 0; edge < edges; edge++) {
                int there = otherEndOf(edge, here);
                if (!rails[edge] || there < 0 || away[there] + edgeDays[edge] != away[here]) {
                    continue;
                }
                if (next < 0 || there < next) {
                    next = there;
                }
            }
            return next;
        }

        int otherEndOf(int edge, int parish) {
            if (ends[edge] == parish) {
                return otherEnds[edge];
            }
            return otherEnds[edge] == parish ? ends[edge] : -1;
        }
    }

    /** A text of ROWS, and what they say. */
    private static final class Text {
        static final int MOST_BYTES = 50;
        static final int MOST_GROUNDS = 4;
        static final int MOST_HOURS = 24;
        static final int NO_FAULT = -1;
        static final int END = -1;

        final int[] bytes = new int[MOST_BYTES];
        final int[] grounds = new int[MOST_GROUNDS];
        int length = 0;
        int groundCount;
        int lastChoiceDay;
        int share;
        boolean debtsByLand;
        int courtStage;
        int hours;

        Text() {
            setDefaults();
        }

        void setDefaults() {
            grounds[0] = 'h';
            grounds[1] = 'b';
            groundCount = 2;
            lastChoiceDay = 400;
            share = 50;
            debtsByLand = false;
            courtStage = 9;
            hours = 12;
        }

        void append(int one) {
            if (length < MOST_BYTES) {
                bytes[length] = one;
                length++;
            }
        }

        void takeFrom(Text other) {
            System.arraycopy(other.bytes, 0, bytes, 0, MOST_BYTES);
            System.arraycopy(other.grounds, 0, grounds, 0, MOST_GROUNDS);
            length = other.length;
            groundCount = other.groundCount;
            lastChoiceDay = other.lastChoiceDay;
            share = other.share;
            debtsByLand = other.debtsByLand;
            courtStage = other.courtStage;
            hours = other.hours;
        }

        boolean isSameAs(Text other) {
            return firstUnlike(other) < 0;
        }

        int firstUnlike(Text other) {
            int common = Math.min(length, other.length);
            for (int i = 0; i < common; i++) {
                if (bytes[i] != other.bytes[i]) {
                    return i;
                }
            }
            return length == other.length ? -1 : common;
        }

        /** Reads all ROWS: the FAULT, or NO_FAULT. */
        int readRows() {
            setDefaults();
            int at = 0;
            for (int row = 0; row < MOST_BYTES && at < length; row++) {
                int next = readRow(at);
                if (next < 0) {
                    return faultPlace(next);
                }
                at = next;
            }
            return NO_FAULT;
        }

        /** Where the next ROW begins, or a fault, which is below 0; so do all that read parts of a ROW. */
        int readRow(int at) {
            switch (byteAt(at)) {
                case 'p':
                    return readGrounds(at + 1);
                case 'k':
                    return readLastChoiceDay(at + 1);
                case 's':
                    return readShare(at + 1);
                case 'd':
                    return readDebts(at + 1);
                case 'c':
                    return readCourtStage(at + 1);
                case 'u':
                    return readHours(at + 1);
                default:
                    return faultAt(at);
            }
        }

        int readGrounds(int at) {
            groundCount = 0;
            int end = at;
            while (groundCount < MOST_GROUNDS && isNewGround(byteAt(end))) {
                grounds[groundCount] = byteAt(end);
                groundCount++;
                end++;
            }
            return groundCount == 0 ? faultAt(at) : readRowEnd(end);
        }

        boolean isNewGround(int one) {
            for (int i = 0; i < groundCount; i++) {
                if (grounds[i] == one) {
                    return false;
                }
            }
            return one == 'c' || one == 'h' || one == 'b' || one == 'w';
        }

        int readLastChoiceDay(int at) {
            int end = readDigits(at, 1, 3);
            if (end < 0) {
                return end;
            }
            lastChoiceDay = numberAt(at, end);
            return readRowEnd(end);
        }

        int readShare(int at) {
            int end = readDigits(at, 2, 2);
            if (end < 0) {
                return end;
            }
            share = numberAt(at, end);
            return readRowEnd(end);
        }

        int readDebts(int at) {
            int one = byteAt(at);
            if (one != 'l' && one != 's') {
                return faultAt(at);
            }
            debtsByLand = one == 'l';
            return readRowEnd(at + 1);
        }

        int readCourtStage(int at) {
            int end = readDigits(at, 1, 1);
            if (end < 0) {
                return end;
            }
            courtStage = numberAt(at, end);
            return readRowEnd(end);
        }

        int readHours(int at) {
            // A first digit above 2 is a fault by itself: no number up to 24 begins so.
            if (byteAt(at) > '2') {
                return faultAt(at);
            }
            int end = readDigits(at, 2, 2);
            if (end < 0) {
                return end;
            }
            hours = numberAt(at, end);
            return hours > MOST_HOURS ? faultAt(at + 1) : readRowEnd(end);
        }

        int readDigits(int at, int least, int most) {
            int end = at;
            while (end < at + most && isDigit(byteAt(end))) {
                end++;
            }
            return end < at + least ? faultAt(end) : end;
        }

        int readRowEnd(int at) {
            return byteAt(at) == ';' ? at + 1 : faultAt(at);
        }

        int numberAt(int from, int end) {
            int number = 0;
            for (int i = from; i < end; i++) {
                number = number * 10 + byteAt(i) - '0';
            }
            return number;
        }

        int byteAt(int at) {
            return at >= 0 && at < length ? bytes[at] : END;
        }

        static boolean isDigit(int one) {
            return one >= '0' && one <= '9';
        }

        static int faultAt(int place) {
            return -1 - place;
        }

        static int faultPlace(int fault) {
            return -1 - fault;
        }
    }

    /** THE TAPE, what both HOUSES hold to, and THE LAW. */
    private static final class Houses {
        final Text tape = new Text();
        final Text first = new Text();
        final Text second = new Text();
        final Text law = new Text();
        boolean firstProposed = false;
        boolean secondProposed = false;
        int lawSince = 0;

        Text heldBy(int house) {
            return house == 0 ? first : second;
        }

        boolean hasProposed(int house) {
            return house == 0 ? firstProposed : secondProposed;
        }

        /** THE TAPE is empty behind it, faulty or not: the FAULT, or NO_FAULT. */
        int takeTape(int house) {
            int fault = tape.readRows();
            if (fault == Text.NO_FAULT) {
                heldBy(house).takeFrom(tape);
                firstProposed = firstProposed || house == 0;
                secondProposed = secondProposed || house == 1;
            }
            tape.length = 0;
            return fault;
        }

        /** Whether THE LAW became another one. The same text again leaves the DAY since which it holds. */
        boolean enactFrom(int day) {
            if (!firstProposed || !secondProposed || !first.isSameAs(second) || first.isSameAs(law)) {
                return false;
            }
            law.takeFrom(first);
            lawSince = day;
            return true;
        }
    }

    /** PERSONS, with their HOARDS. */
    private static final class People {
        static final int MOST_PERSONS = 16;
        static final int MOST_MONTHS = 600;
        static final int NOBODY = -1;

        final int[] births = new int[MOST_PERSONS];
        final int[] homes = new int[MOST_PERSONS];
        final int[] firstMonths = new int[MOST_PERSONS];
        final int[] secondMonths = new int[MOST_PERSONS];
        final int[] choices = new int[MOST_PERSONS];
        final int[] choiceDays = new int[MOST_PERSONS];
        final int[] hoards = new int[MOST_PERSONS];
        int persons = 0;

        static boolean areMonths(int months) {
            return months >= 0 && months <= MOST_MONTHS;
        }

        boolean hasPerson(int person) {
            return person >= 0 && person < persons;
        }

        int addPerson(int birth, int home) {
            births[persons] = birth;
            homes[persons] = home;
            choices[persons] = NOBODY;
            persons++;
            return persons - 1;
        }

        int ownerBy(Text text, int person, Land land) {
            for (int i = 0; i < text.groundCount; i++) {
                int owner = ownerOnGround(text.grounds[i], person, text.lastChoiceDay, land);
                if (owner != NOBODY) {
                    return owner;
                }
            }
            return NOBODY;
        }

        int ownerOnGround(int ground, int person, int lastChoiceDay, Land land) {
            switch (ground) {
                case 'c':
                    return choiceDays[person] > lastChoiceDay ? NOBODY : choices[person];
                case 'h':
                    return land.sideOf(homes[person]);
                case 'b':
                    return land.sideOf(births[person]);
                case 'w':
                    return sideOfMoreWork(person);
                default:
                    return NOBODY;
            }
        }

        int sideOfMoreWork(int person) {
            if (firstMonths[person] == secondMonths[person]) {
                return NOBODY;
            }
            return firstMonths[person] > secondMonths[person] ? 0 : 1;
        }

        int nobodysBy(Text text, Land land) {
            int sum = 0;
            for (int person = 0; person < persons; person++) {
                if (ownerBy(text, person, land) == NOBODY) {
                    sum++;
                }
            }
            return sum;
        }

        int firstPartOfPension(int person, int sum) {
            int all = firstMonths[person] + secondMonths[person];
            return all <= 0 ? sum / 2 : sum * firstMonths[person] / all;
        }
    }

    /** THINGS and their TIES. */
    private static final class Estate {
        static final int MOST_THINGS = 24;
        static final int MOST_TIES = 12;
        static final int MOST_WORTH = 10000;
        static final int THING = 0;
        static final int FIXED = 1;
        static final int USE = 2;
        static final int MOVED = 3;
        static final int PAPER = 4;
        static final int DEBT = 5;
        /** The KIND above each KIND; -1 above THING. */
        private static final int[] ABOVE = {-1, THING, FIXED, THING, MOVED, MOVED, MOVED};

        final int[] kinds = new int[MOST_THINGS];
        /** The PARISH of a FIXED one, the pledge of a DEBT, 0 of others. */
        final int[] places = new int[MOST_THINGS];
        final int[] worths = new int[MOST_THINGS];
        final boolean[] copied = new boolean[MOST_THINGS];
        final int[] tiedOnes = new int[MOST_TIES];
        final int[] tiedOthers = new int[MOST_TIES];
        int things = 0;
        int ties = 0;

        static boolean isKind(int kind) {
            return kind >= 0 && kind < ABOVE.length;
        }

        static boolean isUnder(int kind, int wanted) {
            int one = kind;
            for (int step = 0; step < ABOVE.length && isKind(one); step++) {
                if (one == wanted) {
                    return true;
                }
                one = ABOVE[one];
            }
            return false;
        }

        boolean hasThing(int thing) {
            return thing >= 0 && thing < things;
        }

        boolean isOf(int thing, int kind) {
            return isUnder(kinds[thing], kind);
        }

        int addThing(int kind, int place, int worth) {
            kinds[things] = kind;
            places[things] = place;
            worths[things] = worth;
            things++;
            return things - 1;
        }

        int addTie(int a, int b) {
            tiedOnes[ties] = a;
            tiedOthers[ties] = b;
            ties++;
            return ties;
        }

        /** Whether it goes with its pledge's land, and so not by THE PARTING. */
        boolean isLeftOut(int thing, boolean debtsByLand) {
            return debtsByLand && kinds[thing] == DEBT;
        }

        int pledgeParish(int debt) {
            return places[places[debt]];
        }

        int countedWorth(int thing) {
            return kinds[thing] == DEBT ? -worths[thing] : worths[thing];
        }
    }

    /** THE PARTING of what goes by it into GROUPS, and of these among the SIDES. */
    private static final class Parting {
        static final int MOST_GROUPS = 14;
        static final int NO_GROUP = -1;

        /** The least THING that each is TIED to, over others. */
        final int[] roots = new int[Estate.MOST_THINGS];
        final int[] groupOfRoot = new int[Estate.MOST_THINGS];
        final int[] groupOfThing = new int[Estate.MOST_THINGS];
        final int[] groupWorths = new int[Estate.MOST_THINGS];
        final int[] changes = new int[MOST_GROUPS];
        boolean isKnown = false;
        int groups = 0;
        int total = 0;
        int rest = 0;
        /** A bit for each GROUP that goes to SIDE 1; the first GROUP has the highest bit. */
        int leaving = 0;

        void forgetAll() {
            isKnown = false;
        }

        boolean isTooMany() {
            return groups > MOST_GROUPS;
        }

        void reckon(Estate estate, Text law) {
            findRoots(estate);
            findGroups(estate, law.debtsByLand);
            if (!isTooMany()) {
                findNearest(total * law.share / 100);
            }
            isKnown = true;
        }

        void findRoots(Estate estate) {
            for (int thing = 0; thing < estate.things; thing++) {
                roots[thing] = thing;
            }
            // Each round brings the least THING over one TIE more at least.
            for (int round = 0; round < estate.ties; round++) {
                for (int tie = 0; tie < estate.ties; tie++) {
                    int a = estate.tiedOnes[tie];
                    int b = estate.tiedOthers[tie];
                    int root = Math.min(roots[a], roots[b]);
                    roots[a] = root;
                    roots[b] = root;
                }
            }
        }

        void findGroups(Estate estate, boolean debtsByLand) {
            groups = 0;
            total = 0;
            Arrays.fill(groupOfRoot, NO_GROUP);
            Arrays.fill(groupWorths, 0);
            for (int thing = 0; thing < estate.things; thing++) {
                groupOfThing[thing] = NO_GROUP;
                if (!estate.isOf(thing, Estate.MOVED) || estate.isLeftOut(thing, debtsByLand)) {
                    continue;
                }
                int root = roots[thing];
                if (groupOfRoot[root] == NO_GROUP) {
                    groupOfRoot[root] = groups;
                    groups++;
                }
                groupOfThing[thing] = groupOfRoot[root];
                groupWorths[groupOfRoot[root]] += estate.countedWorth(thing);
                total += estate.countedWorth(thing);
            }
        }

        /**
         * Goes through all ways by counting up: the first of several that are as
         * near is then the one in which earlier GROUPS go to SIDE 0.
         */
        void findNearest(int aim) {
            setChanges();
            int sum = total;
            leaving = 0;
            rest = aim - sum;
            int ways = 1 << groups;
            for (int way = 1; way < ways && rest != 0; way++) {
                sum += changes[Integer.numberOfTrailingZeros(way)];
                if (Math.abs(aim - sum) < Math.abs(rest)) {
                    leaving = way;
                    rest = aim - sum;
                }
            }
        }

        /** What SIDE 0 wins when counting up sets a bit: that GROUP leaves, all of lower bits come back. */
        void setChanges() {
            int lower = 0;
            for (int bit = 0; bit < groups; bit++) {
                int worth = groupWorths[groups - 1 - bit];
                changes[bit] = lower - worth;
                lower += worth;
            }
        }

        int sideOfThing(int thing) {
            int group = groupOfThing[thing];
            return group == NO_GROUP ? 0 : (leaving >> (groups - 1 - group)) & 1;
        }
    }

    /** RATES, LIMIT and DAYS of the week in which coin is STAMPED. */
    private static final class Week {
        static final int MOST_COIN = 9999;
        static final int MOST_RATE = 200;
        static final int MOST_DAYS = 9;

        int firstRate = 100;
        int secondRate = 100;
        int limit = MOST_COIN;
        int dayCount = 7;

        static boolean isRate(int rate) {
            return rate >= 1 && rate <= MOST_RATE;
        }

        int rateOf(int side) {
            return side == 0 ? firstRate : secondRate;
        }

        int stampedOf(int coin, int side) {
            return coin * rateOf(side) / 100;
        }

        int coinOf(int person, int side, People people, Land land) {
            int carried = carriedBy(person, people, land);
            if (land.sideOf(people.homes[person]) == side) {
                return people.hoards[person] - carried;
            }
            return carried;
        }

        int broughtBy(int person, int side, People people, Land land) {
            if (land.sideOf(people.homes[person]) == side) {
                return 0;
            }
            return carriedBy(person, people, land);
        }

        int carriedBy(int person, People people, Land land) {
            int here = land.sideOf(people.homes[person]);
            int there = 1 - here;
            if (rateOf(here) >= rateOf(there)) {
                return 0;
            }
            if (land.daysToSide(people.homes[person], there, false) > dayCount) {
                return 0;
            }
            return Math.min(people.hoards[person], limit);
        }
    }

    /** WAGONS, each with the stops of its way and the days on which it comes there. */
    private static final class Wagons {
        static final int MOST_WAGONS = 10;
        static final int MOST_STOPS = Land.MOST_PARISHES;

        final int[] owners = new int[MOST_WAGONS];
        final int[] stopCounts = new int[MOST_WAGONS];
        final int[][] stops = new int[MOST_WAGONS][MOST_STOPS];
        final int[][] arrivals = new int[MOST_WAGONS][MOST_STOPS];
        int wagons = 0;

        boolean hasWagon(int wagon) {
            return wagon >= 0 && wagon < wagons;
        }

        int addWagon(int side, int parish, int day) {
            owners[wagons] = side;
            addStop(wagons, parish, day);
            wagons++;
            return wagons - 1;
        }

        void addStop(int wagon, int parish, int day) {
            int stop = stopCounts[wagon];
            if (stop < MOST_STOPS) {
                stops[wagon][stop] = parish;
                arrivals[wagon][stop] = day;
                stopCounts[wagon] = stop + 1;
            }
        }

        int placeOn(int wagon, int day) {
            int place = stops[wagon][0];
            for (int stop = 1; stop < stopCounts[wagon]; stop++) {
                if (arrivals[wagon][stop] <= day) {
                    place = stops[wagon][stop];
                }
            }
            return place;
        }

        /** The day on which it comes there; -1: no RAILS lead there, and nothing changes. */
        int route(int wagon, int aim, int day, Land land) {
            int start = placeOn(wagon, day);
            // Measured from the aim, so that each stop knows what is left of the way.
            land.measureFrom(aim, true);
            int days = land.away[start];
            if (days >= Land.UNREACHED) {
                return -1;
            }
            stopCounts[wagon] = 0;
            addStop(wagon, start, day);
            int here = start;
            for (int step = 1; step < MOST_STOPS && here != aim; step++) {
                here = land.nextStop(here);
                if (here < 0) {
                    break;
                }
                addStop(wagon, here, day + days - land.away[here]);
            }
            return day + days;
        }
    }

    /** CASES of the courts. */
    private static final class Cases {
        static final int MOST_CASES = 10;
        static final int MOST_STAGE = 9;
        static final int NO_PAPER = -1;

        final int[] courts = new int[MOST_CASES];
        final int[] persons = new int[MOST_CASES];
        final int[] stages = new int[MOST_CASES];
        final int[] papers = new int[MOST_CASES];
        int cases = 0;

        boolean hasCase(int one) {
            return one >= 0 && one < cases;
        }

        int addCase(int court, int person, int stage, int paper) {
            courts[cases] = court;
            persons[cases] = person;
            stages[cases] = stage;
            papers[cases] = paper;
            cases++;
            return cases - 1;
        }

        int sideOfCase(int one, Text law, People people, Land land) {
            int owner = People.NOBODY;
            if (stages[one] < law.courtStage) {
                owner = people.ownerBy(law, persons[one], land);
            }
            return owner == People.NOBODY ? land.sideOf(courts[one]) : owner;
        }
    }

    /** TASKS of the clerks, and THE BEST of their ORDERS. */
    private static final class Tasks {
        static final int MOST_TASKS = 9;
        static final int MOST_TASK_DAYS = 200;

        final int[] taskDays = new int[MOST_TASKS];
        /** For each TASK the set, a bit each, of those that must be ahead of it. */
        final int[] needed = new int[MOST_TASKS];
        final int[] trial = new int[MOST_TASKS];
        final int[] bestOrder = new int[MOST_TASKS];
        int tasks = 0;
        int bestCount = 0;
        int bestDays = 0;

        boolean hasTask(int task) {
            return task >= 0 && task < tasks;
        }

        int addTask(int days) {
            taskDays[tasks] = days;
            tasks++;
            return tasks - 1;
        }

        boolean isAhead(int task, int other) {
            return (needed[other] & (1 << task)) != 0;
        }

        void putAhead(int task, int other) {
            needed[other] |= 1 << task;
        }

        void findBest(int daysLeft) {
            bestCount = 0;
            bestDays = 0;
            for (int set = 1; set < 1 << tasks; set++) {
                int days = daysOf(set);
                int size = Integer.bitCount(set);
                if (days > daysLeft || !canBeBest(size, days) || !arrange(set)) {
                    continue;
                }
                if (size > bestCount || days < bestDays || isTrialLesser()) {
                    bestCount = size;
                    bestDays = days;
                    System.arraycopy(trial, 0, bestOrder, 0, size);
                }
            }
        }

        boolean canBeBest(int size, int days) {
            return size > bestCount || (size == bestCount && days <= bestDays);
        }

        int daysOf(int set) {
            int sum = 0;
            for (int task = 0; task < tasks; task++) {
                if ((set & (1 << task)) != 0) {
                    sum += taskDays[task];
                }
            }
            return sum;
        }

        /** Puts the least ORDER of all of a set into the trial; false: they have none. */
        boolean arrange(int set) {
            int left = set;
            int size = Integer.bitCount(set);
            for (int place = 0; place < size; place++) {
                int next = leastReady(set, left);
                if (next < 0) {
                    return false;
                }
                trial[place] = next;
                left &= ~(1 << next);
            }
            return true;
        }

        int leastReady(int set, int left) {
            int done = set & ~left;
            for (int task = 0; task < tasks; task++) {
                if ((left & (1 << task)) != 0 && (needed[task] & ~done) == 0) {
                    return task;
                }
            }
            return -1;
        }

        /** The trial has as many TASKS as THE BEST when this is asked. */
        boolean isTrialLesser() {
            for (int place = 0; place < bestCount; place++) {
                if (trial[place] != bestOrder[place]) {
                    return trial[place] < bestOrder[place];
                }
            }
            return false;
        }
    }
}
