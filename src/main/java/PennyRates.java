import java.util.Arrays;

/**
 * A court of rates: lines, laws, rates, trucks, wants, acts and tapes, as DOC.md promises them.
 *
 * The public methods look at every argument in the order in which the document names the refusals;
 * the classes inside are called with looked-at arguments only.
 */
public final class PennyRates {
    public static final int NONE = -1, BAD = -2, STATE = -3, FULL = -4;
    public static final long NO = Long.MIN_VALUE;

    private static final int NO_SUCH = -5, NOTHING = -11, CAST = -12, PLACE = -13, SIZE = -14;
    private static final int FIRST_FAULT = -10;

    private static final int LAST_DAY = 9999, LONGEST_PASS = 400;
    private static final int STATIONS = 16, OWNERS = 6, GOODS = 20, CLASSES = 10;
    private static final int MOST_MILES = 200, MOST_TONS = 99, MOST_PAID = 99999;
    private static final int MOST_PENCE = 9999, MOST_TENTHS = 99, MOST_WANT_PENCE = 999;
    private static final int COURT = -1, ANY = -1;

    private static final int PLAIN = 0, THROUGH = 1, SPECIAL = 2, TOLL = 3, BOAT = 4, SET = 5, WITHDRAWN = 6;
    private static final int KINDS = 7;

    /** What a law says, by the numbers of holds(): so the rows of laws need no others. */
    private static final int TERM = 1, SMALL = 2, NOTICE = 3, BACK = 4, GAIN = 5, BY_MILES = 6;
    private static final int MOST_OF_CLASS = 10, CLASS_OF_GOOD = 20, LAW_VALUES = 40;

    private static final int BOOK_ROW = 5, LONGEST_BOOK = 16;
    private static final int ALL_CAME = 0, TORN = 1, NO_TRUCK = 2, NO_ROOM = 3;

    private final Roads roads;
    private final LawText text;
    private final Laws laws;
    private final Rates rates;
    private final Trucks trucks;
    private final Carriage carriage;
    private final Wants wants;
    private final Acts acts;
    private final Tapes tapes;
    private int today;
    private int bookEnd;

    public PennyRates() {
        roads = new Roads();
        text = new LawText();
        laws = new Laws();
        rates = new Rates(roads, laws);
        trucks = new Trucks(rates, laws);
        carriage = new Carriage(rates);
        wants = new Wants(rates, carriage);
        acts = new Acts();
        tapes = new Tapes();
        bookEnd = STATE;
    }

    // ---- lines, laws

    public int pass(int n) {
        if (n < 1 || n > LONGEST_PASS || today + n > LAST_DAY) {
            return BAD;
        }
        today += n;
        return today;
    }

    public int line(int owner, int a, int b, int miles) {
        if (!isOwner(owner) || !areStations(a, b)) {
            return NONE;
        }
        if (a == b || miles < 1 || miles > MOST_MILES) {
            return BAD;
        }
        return roads.isFull() ? FULL : roads.add(owner, a, b, miles);
    }

    public int miles(int owner, int a, int b) {
        if (!isOwnerOrNoOne(owner) || !areStations(a, b)) {
            return NONE;
        }
        int far = roads.between(owner, a, b);
        return far < 0 ? STATE : far;
    }

    public int way(int a, int b, int i) {
        if (!areStations(a, b) || i < 0) {
            return NONE;
        }
        int line = roads.lineOnWay(a, b, i);
        return line < 0 ? NONE : line;
    }

    public int feed(int bytes, int n) {
        if (n < 0 || n > 4) {
            return BAD;
        }
        return text.hasRoom(n) ? text.append(bytes, n) : FULL;
    }

    public int law(int owner, int day) {
        if (!isOwnerOrNoOne(owner)) {
            return NONE;
        }
        if (!isDay(day)) {
            return BAD;
        }
        if (laws.areFull()) {
            return FULL;
        }
        boolean good = text.parses();
        text.length = 0;
        return good ? laws.add(owner, day, text) : FIRST_FAULT - text.at;
    }

    public int holds(int owner, int day, int what) {
        if (!isOwnerOrNoOne(owner) || !isDay(day) || what < 0 || what >= LAW_VALUES) {
            return NO_SUCH;
        }
        if (what == 0) {
            return laws.inForce(owner, day).number;
        }
        return what > BY_MILES && what < MOST_OF_CLASS ? NO_SUCH : laws.value(owner, day, what);
    }

    // ---- rates

    public int rate(int kind, int owner, int from, int to, int pence, int day, int cls) {
        if (!isOwner(owner) || !areStations(from, to)) {
            return NONE;
        }
        if (kind != PLAIN && kind != THROUGH && kind != TOLL && kind != BOAT) {
            return BAD;
        }
        if (from == to || cls < 0 || cls >= CLASSES || !isPence(kind, pence) || day < today || day > LAST_DAY) {
            return BAD;
        }
        if (rates.areFull()) {
            return FULL;
        }
        return rates.add(kind, owner, from, to, pence, cls, Math.max(day, soonest(owner)));
    }

    public int special(int owner, int from, int to, int pence, int good, int least) {
        if (!isOwner(owner) || !areStations(from, to) || !isGood(good)) {
            return NONE;
        }
        if (from == to || !isPence(SPECIAL, pence) || !areTons(least)) {
            return BAD;
        }
        if (rates.areFull()) {
            return FULL;
        }
        int number = rates.add(SPECIAL, owner, from, to, pence, good, soonest(owner));
        rates.row(number).least = least;
        return number;
    }

    public int withdraw(int rate) {
        if (!rates.has(rate)) {
            return NONE;
        }
        Rate row = rates.row(rate);
        if (row.withdrawn || row.was == SET) {
            return STATE;
        }
        row.takeOut(today);
        return 1;
    }

    public int set(int rate, int pence) {
        if (!rates.has(rate)) {
            return NONE;
        }
        if (!isPence(SET, pence)) {
            return BAD;
        }
        Rate row = rates.row(rate);
        if (row.withdrawn || row.was == SET) {
            return STATE;
        }
        if (rates.areFull()) {
            return FULL;
        }
        int cls = rates.classOf(row, today);
        int number = rates.add(SET, row.owner, row.from, row.to, pence, cls, today);
        rates.row(number).instead = rate;
        row.takeOut(today);
        return number;
    }

    public int undo(int set) {
        if (!rates.has(set)) {
            return NONE;
        }
        Rate row = rates.row(set);
        if (row.kind() != SET || !rates.has(row.instead)) {
            return CAST;
        }
        row.takeOut(today);
        rates.row(row.instead).putBack();
        return row.instead;
    }

    public int of(int rate, int what) {
        return rates.has(rate) ? rates.row(rate).fact(what) : NO_SUCH;
    }

    public int charge(int rate, int good, int tons, int day) {
        if (!rates.has(rate) || !isGood(good)) {
            return NONE;
        }
        if (!areTons(tons) || !isDay(day)) {
            return BAD;
        }
        Rate row = rates.row(rate);
        int fee = rates.fee(row, row.pence, good, tons, day);
        return fee < 0 ? STATE : fee;
    }

    public int most(int rate, int day, int what) {
        if (!rates.has(rate) || what < 0 || what > 1) {
            return NONE;
        }
        if (!isDay(day)) {
            return BAD;
        }
        Rate row = rates.row(rate);
        if (what == 1) {
            return rates.over(row, day);
        }
        int ceiling = rates.ceiling(row, day);
        return ceiling < 0 ? STATE : ceiling;
    }

    public int part(int rate, int day, int owner) {
        if (!rates.has(rate) || !isOwner(owner)) {
            return NONE;
        }
        Rate row = rates.row(rate);
        if (row.was != THROUGH && row.was != BOAT) {
            return CAST;
        }
        if (!isDay(day)) {
            return BAD;
        }
        int share = rates.share(row, day, owner);
        return share < 0 ? STATE : share;
    }

    // ---- trucks

    public int truck(int rate, int good, int tons, int paid, int day) {
        int refusal = truckRefusal(rate, good, tons, paid, day);
        if (refusal != 0) {
            return refusal;
        }
        return trucks.areFull() ? FULL : trucks.add(rate, good, tons, paid, day);
    }

    public int book(int tape, int i, int n) {
        if (!isTape(tape)) {
            return NONE;
        }
        if (n < 1 || n > LONGEST_BOOK) {
            return BAD;
        }
        int sort = tapes.sorts[tape];
        if (sort != Tapes.EMPTY && sort != Tapes.INTS) {
            return CAST;
        }
        bookEnd = ALL_CAME;
        for (int k = 0; k < n; k++) {
            bookEnd = bookRow(tape, i + (long) BOOK_ROW * k);
            if (bookEnd != ALL_CAME) {
                return k;
            }
        }
        return n;
    }

    public int ended() {
        return bookEnd;
    }

    public int due(int truck) {
        if (!trucks.has(truck)) {
            return NONE;
        }
        int fee = trucks.dueOf(truck);
        return fee < 0 ? STATE : fee;
    }

    public int unlike(int a, int b, int what) {
        if (!trucks.has(a) || !trucks.has(b)) {
            return NONE;
        }
        if (a == b) {
            return BAD;
        }
        if (what < 0 || what > 1) {
            return NONE;
        }
        int first = Math.min(a, b);
        int second = Math.max(a, b);
        boolean so = what == 0 ? trucks.areSame(first, second) : trucks.areUnlike(first, second);
        return so ? 1 : 0;
    }

    public int unlikes(int what) {
        if (what < 0 || what > 2) {
            return NONE;
        }
        return what == 0 ? trucks.countUnlike() : trucks.firstUnlike(what == 2);
    }

    public long suit(int station) {
        return isStation(station) ? trucks.claims(station, today) : NO;
    }

    public int cheap(int from, int to, int good, int tons, int day, int what) {
        if (!areStations(from, to) || !isGood(good) || what < 0 || (what > 1 && what < 10)) {
            return NONE;
        }
        if (from == to || !areTons(tons) || !isDay(day)) {
            return BAD;
        }
        carriage.price(good, tons, day);
        carriage.reach(to);
        if (carriage.leastFrom(from) < 0) {
            return STATE;
        }
        if (what == 0) {
            return carriage.leastFrom(from);
        }
        int legs = carriage.legsFrom(from);
        if (what == 1) {
            return legs;
        }
        return what - 10 < legs ? carriage.leg(from, what - 10) : NONE;
    }

    public int cry(int station, int to, int good, int tons, int day) {
        if (!areStations(station, to) || !isGood(good)) {
            return NONE;
        }
        if (station == to || !areTons(tons) || !isDay(day)) {
            return BAD;
        }
        carriage.price(good, tons, day);
        carriage.reach(to);
        int least = carriage.leastFrom(station);
        int far = roads.between(ANY, station, to);
        if (least < 0 || far < 0) {
            return STATE;
        }
        int cries = 0;
        for (int other = 0; other < STATIONS; other++) {
            int otherLeast = carriage.leastFrom(other);
            if (roads.between(ANY, other, to) > far && otherLeast >= 0 && otherLeast < least) {
                cries++;
            }
        }
        return cries;
    }

    // ---- wants, changes, friends

    public int want(int from, int to, int good, int tons, int pence) {
        if (!areStations(from, to) || !isGood(good)) {
            return NONE;
        }
        if (from == to || !areTons(tons) || pence < 0 || pence > MOST_WANT_PENCE) {
            return BAD;
        }
        return wants.areFull() ? FULL : wants.add(from, to, good, tons, pence);
    }

    public int ships(int want, int day) {
        if (!wants.has(want)) {
            return NONE;
        }
        if (!isDay(day)) {
            return BAD;
        }
        return wants.goes(want, day) ? 1 : 0;
    }

    public int takings(int owner, int day) {
        if (!isOwnerOrNoOne(owner)) {
            return NONE;
        }
        return isDay(day) ? wants.sumTaken(owner, day) : BAD;
    }

    public int tries(int rate, int pence, int day) {
        if (!rates.has(rate)) {
            return NONE;
        }
        Rate row = rates.row(rate);
        if (!isPence(row.was, pence) || !isDay(day)) {
            return BAD;
        }
        if (row.withdrawn) {
            return STATE;
        }
        int before = row.pence;
        row.pence = pence;
        int sum = wants.sumTaken(ANY, day);
        row.pence = before;
        return sum;
    }

    public int list(int rate) {
        if (!rates.has(rate)) {
            return NONE;
        }
        Rate row = rates.row(rate);
        if (wants.isListed(rate) || row.withdrawn || row.was == TOLL) {
            return STATE;
        }
        if (roads.between(ANY, row.from, row.to) < 0) {
            return STATE;
        }
        return wants.listIsFull() ? FULL : wants.enlist(rate);
    }

    public int listless() {
        int had = wants.listCount;
        wants.listCount = 0;
        return had;
    }

    public int change(int much) {
        if (much < 0) {
            return BAD;
        }
        int set = wants.fewestRaised(much, today);
        return set < 0 ? STATE : set;
    }

    public int friends(int owner, int good, int from, int to, int first, int last, int what) {
        if (!isOwner(owner) || !isGood(good) || !areStations(from, to) || what < 0 || what > 3) {
            return NONE;
        }
        if (!isDay(first) || !isDay(last) || first > last) {
            return BAD;
        }
        int found = trucks.markFriends(owner, good, from, to, first, last);
        switch (what) {
            case 0:
                return found;
            case 1:
                return trucks.leastPaid();
            case 2:
                return trucks.greatestPaid();
            default:
                return trucks.rebate();
        }
    }

    // ---- acts, tapes

    public int act(int rate, int act, int x) {
        acts.forget();
        if (!rates.has(rate) || act < 0 || act >= Acts.ACTS) {
            return 0;
        }
        return acts.run(rates.row(rate), act, x);
    }

    public int trace(int i) {
        return acts.keeps(i) ? acts.kept[i] : NONE;
    }

    public int taken(int rate, int k) {
        if (k < 0 || k >= KINDS) {
            return BAD;
        }
        if (!rates.has(rate)) {
            return NOTHING;
        }
        int kind = rates.row(rate).kind();
        return Acts.isUnder(kind, k) ? kind : CAST;
    }

    public int count(int what) {
        switch (what) {
            case 0:
                return today;
            case 1:
                return roads.count;
            case 2:
                return laws.count;
            case 3:
                return rates.count;
            case 4:
                return trucks.count;
            case 5:
                return wants.count;
            case 6:
                return wants.listCount;
            case 7:
                return text.length;
            case 8:
                return acts.ran;
            default:
                return BAD;
        }
    }

    public int tape(int tape, int sort, int n) {
        if (!isTape(tape)) {
            return NONE;
        }
        if (sort == Tapes.EMPTY) {
            tapes.lay(tape, Tapes.EMPTY, 0);
            return 1;
        }
        if (sort < 0 || sort >= Tapes.SORTS || n > Tapes.LONGEST) {
            return BAD;
        }
        if (n < 0) {
            return SIZE;
        }
        tapes.lay(tape, sort, n);
        return 1;
    }

    public int item(int tape, int i, long v) {
        if (!isTape(tape)) {
            return NONE;
        }
        if (tapes.sorts[tape] == Tapes.EMPTY) {
            return NOTHING;
        }
        if (!tapes.reaches(tape, i, 1)) {
            return PLACE;
        }
        tapes.cells[tape][i] = Tapes.cut(tapes.sorts[tape], v);
        return 1;
    }

    public long read(int tape, int i) {
        return isTape(tape) && tapes.reaches(tape, i, 1) ? tapes.cells[tape][i] : NO;
    }

    public int shift(int tape, int i, int other, int j, int n) {
        if (!isTape(tape) || !isTape(other)) {
            return NONE;
        }
        if (tapes.sorts[tape] == Tapes.EMPTY || tapes.sorts[other] == Tapes.EMPTY) {
            return NOTHING;
        }
        if (tapes.sorts[tape] != tapes.sorts[other]) {
            return CAST;
        }
        if (!tapes.reaches(tape, i, n) || !tapes.reaches(other, j, n)) {
            return PLACE;
        }
        System.arraycopy(tapes.cells[tape], i, tapes.cells[other], j, n);
        return n;
    }

    // ---- what the calls share

    private static boolean isOwner(int n) {
        return n >= 0 && n < OWNERS;
    }

    private static boolean isOwnerOrNoOne(int n) {
        return n == COURT || isOwner(n);
    }

    private static boolean isStation(int n) {
        return n >= 0 && n < STATIONS;
    }

    private static boolean areStations(int a, int b) {
        return isStation(a) && isStation(b);
    }

    private static boolean isGood(int n) {
        return n >= 0 && n < GOODS;
    }

    private static boolean isDay(int n) {
        return n >= 0 && n <= LAST_DAY;
    }

    private static boolean areTons(int n) {
        return n >= 1 && n <= MOST_TONS;
    }

    private static boolean isPence(int kind, int n) {
        return n >= 0 && n <= (kind == TOLL ? MOST_TENTHS : MOST_PENCE);
    }

    private static boolean isTape(int n) {
        return n >= 0 && n < Tapes.TAPES;
    }

    private int soonest(int owner) {
        return today + laws.value(owner, today, NOTICE);
    }

    /** 0 if these may be a truck: a book asks the same as truck() does, but for room. */
    private int truckRefusal(int rate, int good, int tons, int paid, int day) {
        if (!rates.has(rate) || !isGood(good)) {
            return NONE;
        }
        if (!areTons(tons) || paid < 0 || paid > MOST_PAID || day < 0 || day > today) {
            return BAD;
        }
        return 0;
    }

    private int bookRow(int tape, long place) {
        if (place < 0 || place + BOOK_ROW > tapes.sizes[tape]) {
            return TORN;
        }
        long[] cells = tapes.cells[tape];
        int at = (int) place;
        int rate = (int) cells[at];
        int good = (int) cells[at + 1];
        int tons = (int) cells[at + 2];
        int paid = (int) cells[at + 3];
        int day = (int) cells[at + 4];
        if (truckRefusal(rate, good, tons, paid, day) != 0) {
            return NO_TRUCK;
        }
        if (trucks.areFull()) {
            return NO_ROOM;
        }
        trucks.add(rate, good, tons, paid, day);
        return ALL_CAME;
    }

    /** Lines, and the fewest miles between all stations by lines of each owner and by any. */
    private static final class Roads {
        private static final int LINES = 40;
        private static final int NETS = OWNERS + 1;
        /** Above any way's miles, yet far enough below the greatest int that two of it can be added. */
        private static final int NO_WAY = 1000000;

        private final int[] owners = new int[LINES];
        private final int[] lengths = new int[LINES];
        /** The line that a way takes from a station to one beside it, or -1. */
        private final int[] beside = new int[STATIONS * STATIONS];
        /** Fewest miles by lines of each owner, then by any. */
        private final int[][] fewest = new int[NETS][STATIONS * STATIONS];
        private int count;

        Roads() {
            Arrays.fill(beside, -1);
            for (int net = 0; net < NETS; net++) {
                Arrays.fill(fewest[net], NO_WAY);
                for (int s = 0; s < STATIONS; s++) {
                    fewest[net][s * STATIONS + s] = 0;
                }
            }
        }

        boolean isFull() {
            return count >= LINES;
        }

        int add(int owner, int a, int b, int length) {
            owners[count] = owner;
            lengths[count] = length;
            int there = beside[a * STATIONS + b];
            if (there < 0 || length < lengths[there]) {
                beside[a * STATIONS + b] = count;
                beside[b * STATIONS + a] = count;
            }
            shorten(fewest[owner], a, b, length);
            shorten(fewest[OWNERS], a, b, length);
            return count++;
        }

        /** A new line only ever shortens: a way that gains by it goes over it once. */
        private static void shorten(int[] net, int a, int b, int length) {
            for (int s = 0; s < STATIONS; s++) {
                for (int t = 0; t < STATIONS; t++) {
                    int ahead = net[s * STATIONS + a] + net[b * STATIONS + t];
                    int back = net[s * STATIONS + b] + net[a * STATIONS + t];
                    int over = Math.min(ahead, back) + length;
                    if (over < net[s * STATIONS + t]) {
                        net[s * STATIONS + t] = over;
                    }
                }
            }
        }

        /** Miles of the way by lines of an owner, or of any; -1 without one. */
        int between(int owner, int a, int b) {
            int far = fewest[owner == ANY ? OWNERS : owner][a * STATIONS + b];
            return far >= NO_WAY ? -1 : far;
        }

        /** The least station beside one from which a way by any lines goes on; -1 without one. */
        private int nextOnWay(int at, int b) {
            int left = between(ANY, at, b);
            for (int s = 0; s < STATIONS; s++) {
                int line = beside[at * STATIONS + s];
                int rest = between(ANY, s, b);
                if (line >= 0 && rest >= 0 && lengths[line] + rest == left) {
                    return s;
                }
            }
            return -1;
        }

        /** Line i of the way by any lines, or -1. */
        int lineOnWay(int a, int b, int i) {
            int at = a;
            for (int k = 0; k < STATIONS && k <= i && at != b; k++) {
                int next = nextOnWay(at, b);
                if (next < 0) {
                    return -1;
                }
                if (k == i) {
                    return beside[at * STATIONS + next];
                }
                at = next;
            }
            return -1;
        }

        /** Adds to each owner's number the miles of its lines on the way by any lines. */
        void addMilesOfOwners(int a, int b, int[] miles) {
            for (int i = 0; i < STATIONS; i++) {
                int line = lineOnWay(a, b, i);
                if (line < 0) {
                    return;
                }
                miles[owners[line]] += lengths[line];
            }
        }
    }

    /** One law that was read. What it has not is -1 in its values, or an empty row of steps. */
    private static final class Law {
        private static final int NUMBERS = 10000;
        private static final int IS_GOOD = 0, IS_CLASS = 1, IS_OWNER = 2, LESS_TONS = 3, MORE_TONS = 4;
        private static final int LESS_DAYS = 5, MORE_DAYS = 6, HAS_BOAT = 7, ONE_OWNER = 8;
        private static final int NOT = 9, AND = 10, OR = 11;

        /** What the tests of a law ask about, by these places of a row. */
        private static final int GOOD = 0, CLASS = 1, OWNER = 2, TONS = 3, DAYS = 4, BOATS = 5, SHARED = 6;
        private static final int FACTS = 7;

        private final int number;
        private final int owner;
        private final int day;
        private final int[] values;
        private final int[] same;
        private final int[] excuse;

        Law(int number, int owner, int day, int[] values, int[] same, int[] excuse) {
            this.number = number;
            this.owner = owner;
            this.day = day;
            this.values = values;
            this.same = same;
            this.excuse = excuse;
        }

        /** Steps stand behind what they join, so the answers so far fit as bits into one number. */
        static boolean judge(int[] steps, int[] facts, boolean withoutSteps) {
            if (steps.length == 0) {
                return withoutSteps;
            }
            long answers = 0;
            for (int step : steps) {
                int sort = step / NUMBERS;
                if (sort == NOT) {
                    answers ^= 1;
                } else if (sort == AND) {
                    answers = (answers >> 1) & (answers | ~1L);
                } else if (sort == OR) {
                    answers = (answers >> 1) | (answers & 1);
                } else {
                    answers = (answers << 1) | (passes(sort, step % NUMBERS, facts) ? 1 : 0);
                }
            }
            return (answers & 1) == 1;
        }

        private static boolean passes(int sort, int n, int[] facts) {
            switch (sort) {
                case IS_GOOD:
                    return facts[GOOD] == n;
                case IS_CLASS:
                    return facts[CLASS] == n;
                case IS_OWNER:
                    return facts[OWNER] == n;
                case LESS_TONS:
                    return facts[TONS] < n;
                case MORE_TONS:
                    return facts[TONS] > n;
                case LESS_DAYS:
                    return facts[DAYS] < n;
                case MORE_DAYS:
                    return facts[DAYS] > n;
                case HAS_BOAT:
                    return facts[BOATS] > 0;
                default:
                    return facts[SHARED] > 0;
            }
        }
    }

    /**
     * The text, and its reading into a law. Each reader leaves the place at the first byte that it
     * can't take, so that this place is the fault as soon as one of them refuses.
     */
    private static final class LawText {
        private static final int LONGEST = 140, MOST_CLAUSES = 10, MOST_DIGITS = 4, MOST_WITHIN = 5;
        /** Words 1 to 5 bear the numbers of holds() for what they tell. */
        private static final int WORD_GOOD = 0, WORD_MILES = 6, WORD_EVEN = 7, WORD_MOST = 8;
        private static final int WORD_SAME = 9, WORD_EXCUSE = 10, WORDS = 11, NO_WORD = -1;

        private final byte[] bytes = new byte[LONGEST];
        private final int[] values = new int[LAW_VALUES];
        /** The steps of all expressions of the text, one behind another: each takes a byte at least. */
        private final int[] steps = new int[LONGEST];
        private int length;
        private int at;
        private int stepsEnd;
        private int sameStart;
        private int sameEnd;
        private int excuseStart;
        private int excuseEnd;

        boolean hasRoom(int n) {
            return length + n <= LONGEST;
        }

        int append(int number, int n) {
            for (int k = n - 1; k >= 0; k--) {
                bytes[length++] = (byte) (number >> (8 * k));
            }
            return length;
        }

        int[] sameSteps() {
            return Arrays.copyOfRange(steps, sameStart, sameEnd);
        }

        int[] excuseSteps() {
            return Arrays.copyOfRange(steps, excuseStart, excuseEnd);
        }

        boolean parses() {
            begin();
            for (int k = 0; k < MOST_CLAUSES; k++) {
                if (!clause()) {
                    return false;
                }
                if (at == length) {
                    return true;
                }
                if (k == MOST_CLAUSES - 1 || !takes(';')) {
                    return false;
                }
            }
            return false;
        }

        private void begin() {
            at = 0;
            stepsEnd = 0;
            sameStart = 0;
            sameEnd = 0;
            excuseStart = 0;
            excuseEnd = 0;
            Arrays.fill(values, -1);
        }

        private boolean takes(char sign) {
            if (at < length && bytes[at] == sign) {
                at++;
                return true;
            }
            return false;
        }

        private boolean clause() {
            int word = word();
            switch (word) {
                case NO_WORD:
                    return false;
                case WORD_GOOD:
                    return goodClause();
                case WORD_MOST:
                    return mostClause();
                case WORD_MILES:
                    values[BY_MILES] = 1;
                    return true;
                case WORD_EVEN:
                    values[BY_MILES] = 0;
                    return true;
                case WORD_SAME:
                    sameStart = stepsEnd;
                    boolean isSame = takes(' ') && either(0);
                    sameEnd = stepsEnd;
                    return isSame;
                case WORD_EXCUSE:
                    excuseStart = stepsEnd;
                    boolean isExcuse = takes(' ') && either(0);
                    excuseEnd = stepsEnd;
                    return isExcuse;
                default:
                    return takes(' ') && numberInto(word);
            }
        }

        private static String spelled(int word) {
            switch (word) {
                case WORD_GOOD:
                    return "good";
                case TERM:
                    return "term";
                case SMALL:
                    return "small";
                case NOTICE:
                    return "notice";
                case BACK:
                    return "back";
                case GAIN:
                    return "gain";
                case WORD_MILES:
                    return "miles";
                case WORD_EVEN:
                    return "even";
                case WORD_MOST:
                    return "most";
                case WORD_SAME:
                    return "same";
                default:
                    return "excuse";
            }
        }

        /** The word here, or none: then the place is behind all that any word begins with. */
        private int word() {
            int farthest = at;
            for (int w = 0; w < WORDS; w++) {
                String spelling = spelled(w);
                int like = likeness(spelling);
                if (like == spelling.length()) {
                    at += like;
                    return w;
                }
                farthest = Math.max(farthest, at + like);
            }
            at = farthest;
            return NO_WORD;
        }

        private int likeness(String spelling) {
            for (int k = 0; k < spelling.length(); k++) {
                if (at + k >= length || bytes[at + k] != spelling.charAt(k)) {
                    return k;
                }
            }
            return spelling.length();
        }

        /** A number of 1 to so many digits, or -1. */
        private int number(int mostDigits) {
            int n = 0;
            int digits = 0;
            while (digits < mostDigits && at < length && bytes[at] >= '0' && bytes[at] <= '9') {
                n = n * 10 + bytes[at] - '0';
                at++;
                digits++;
            }
            return digits == 0 ? -1 : n;
        }

        private boolean numberInto(int what) {
            int n = number(MOST_DIGITS);
            if (n < 0) {
                return false;
            }
            values[what] = n;
            return true;
        }

        private boolean goodClause() {
            if (!takes(' ')) {
                return false;
            }
            int good = number(1);
            // No figure but 1 can have another one behind it: 0 may not, and 19 is the last good.
            int second = good == 1 ? number(1) : -1;
            if (good < 0 || !takes(' ')) {
                return false;
            }
            int cls = number(1);
            if (cls < 0) {
                return false;
            }
            values[CLASS_OF_GOOD + (second < 0 ? good : 10 + second)] = cls;
            return true;
        }

        private boolean mostClause() {
            if (!takes(' ')) {
                return false;
            }
            int cls = number(1);
            return cls >= 0 && takes(' ') && numberInto(MOST_OF_CLASS + cls);
        }

        private void emit(int sort, int n) {
            if (stepsEnd < steps.length) {
                steps[stepsEnd++] = sort * Law.NUMBERS + n;
            }
        }

        private boolean either(int within) {
            if (!both(within)) {
                return false;
            }
            for (int k = 0; k < LONGEST && takes('|'); k++) {
                if (!both(within)) {
                    return false;
                }
                emit(Law.OR, 0);
            }
            return true;
        }

        private boolean both(int within) {
            if (!factor(within)) {
                return false;
            }
            for (int k = 0; k < LONGEST && takes('&'); k++) {
                if (!factor(within)) {
                    return false;
                }
                emit(Law.AND, 0);
            }
            return true;
        }

        private boolean factor(int within) {
            if (within < MOST_WITHIN && takes('!')) {
                boolean good = factor(within + 1);
                emit(Law.NOT, 0);
                return good;
            }
            if (within < MOST_WITHIN && takes('(')) {
                return either(within + 1) && takes(')');
            }
            return test();
        }

        private boolean test() {
            int sort = -1;
            if (takes('g')) {
                sort = takes('=') ? Law.IS_GOOD : -1;
            } else if (takes('c')) {
                sort = takes('=') ? Law.IS_CLASS : -1;
            } else if (takes('o')) {
                sort = takes('=') ? Law.IS_OWNER : -1;
            } else if (takes('t')) {
                sort = takes('<') ? Law.LESS_TONS : takes('>') ? Law.MORE_TONS : -1;
            } else if (takes('d')) {
                sort = takes('<') ? Law.LESS_DAYS : takes('>') ? Law.MORE_DAYS : -1;
            } else if (takes('b')) {
                emit(Law.HAS_BOAT, 0);
                return true;
            } else if (takes('x')) {
                emit(Law.ONE_OWNER, 0);
                return true;
            }
            int n = sort < 0 ? -1 : number(MOST_DIGITS);
            if (n < 0) {
                return false;
            }
            emit(sort, n);
            return true;
        }
    }

    /** The laws, and which of them is in force for whom. */
    private static final class Laws {
        private static final int LAWS = 16;
        /** A day on which no law is asked for. */
        private static final int NO_DAY = -1;

        private final Law[] rows = new Law[LAWS];
        /** Those in force on the day that was asked for last: of the court, then of each owner. */
        private final Law[] latest = new Law[OWNERS + 1];
        private final Law noLaw;
        private int settledDay;
        private int count;

        Laws() {
            int[] values = new int[LAW_VALUES];
            Arrays.fill(values, -1);
            noLaw = new Law(-1, COURT, NO_DAY, values, new int[0], new int[0]);
            for (int k = 0; k < LAWS; k++) {
                rows[k] = noLaw;
            }
            for (int k = 0; k <= OWNERS; k++) {
                latest[k] = noLaw;
            }
            settledDay = NO_DAY;
        }

        boolean areFull() {
            return count >= LAWS;
        }

        int add(int owner, int day, LawText text) {
            rows[count] = new Law(count, owner, day, text.values.clone(), text.sameSteps(), text.excuseSteps());
            settledDay = NO_DAY;
            return count++;
        }

        Law inForce(int owner, int day) {
            if (day == settledDay) {
                return latest[owner + 1];
            }
            for (int k = 0; k <= OWNERS; k++) {
                latest[k] = noLaw;
            }
            for (int k = 0; k < count; k++) {
                Law law = rows[k];
                if (law.day <= day && law.day >= latest[law.owner + 1].day) {
                    latest[law.owner + 1] = law;
                }
            }
            settledDay = day;
            return latest[owner + 1];
        }

        int value(int owner, int day, int what) {
            int own = inForce(owner, day).values[what];
            if (own >= 0) {
                return own;
            }
            int courts = inForce(COURT, day).values[what];
            return courts >= 0 ? courts : usual(what);
        }

        private static int usual(int what) {
            if (what >= CLASS_OF_GOOD) {
                return (what - CLASS_OF_GOOD) % CLASSES;
            }
            if (what >= MOST_OF_CLASS) {
                return 9999;
            }
            switch (what) {
                case SMALL:
                    return 1;
                case BACK:
                    return 365;
                default:
                    return 0;
            }
        }
    }

    /** One rate of any kind. What it was stays known when it is withdrawn. */
    private static final class Rate {
        private int number;
        private int was;
        private int owner;
        private int from;
        private int to;
        private int pence;
        /** Its class; of a special its good. */
        private int carried;
        private int since;
        private int until;
        private int least;
        private int instead;
        private boolean withdrawn;

        int kind() {
            return withdrawn ? WITHDRAWN : was;
        }

        boolean isPrinted(int day) {
            return day >= since && (until < 0 || day < until);
        }

        void takeOut(int day) {
            withdrawn = true;
            until = day;
        }

        void putBack() {
            withdrawn = false;
            until = -1;
        }

        int fact(int what) {
            switch (what) {
                case 0:
                    return kind();
                case 1:
                    return was;
                case 2:
                    return owner;
                case 3:
                    return from;
                case 4:
                    return to;
                case 5:
                    return pence;
                case 6:
                    return carried;
                case 7:
                    return since;
                case 8:
                    return until;
                case 9:
                    return least;
                case 10:
                    return instead;
                default:
                    return NO_SUCH;
            }
        }
    }

    /** The rates, and what may be charged by them. */
    private static final class Rates {
        private static final int RATES = 60;

        private final Roads roads;
        private final Laws laws;
        private final Rate[] rows = new Rate[RATES];
        private final int[] weights = new int[OWNERS];
        private int count;

        Rates(Roads roads, Laws laws) {
            this.roads = roads;
            this.laws = laws;
            for (int k = 0; k < RATES; k++) {
                rows[k] = new Rate();
            }
        }

        boolean has(int n) {
            return n >= 0 && n < count;
        }

        boolean areFull() {
            return count >= RATES;
        }

        Rate row(int n) {
            return rows[n];
        }

        int add(int kind, int owner, int from, int to, int pence, int carried, int since) {
            Rate rate = rows[count];
            rate.number = count;
            rate.was = kind;
            rate.owner = owner;
            rate.from = from;
            rate.to = to;
            rate.pence = pence;
            rate.carried = carried;
            rate.since = since;
            rate.until = -1;
            rate.least = 1;
            rate.instead = -1;
            return count++;
        }

        int classOf(Rate rate, int day) {
            return rate.was == SPECIAL ? laws.value(rate.owner, day, CLASS_OF_GOOD + rate.carried) : rate.carried;
        }

        /** Pence a ton if the rate's own number were this one; -1 for a toll without a way. */
        private int perTon(Rate rate, int pence) {
            if (rate.was != TOLL) {
                return pence;
            }
            int far = roads.between(rate.owner, rate.from, rate.to);
            return far < 0 ? -1 : far * pence / 10;
        }

        /** The charge if the rate's pence were these; -1 if it doesn't serve. */
        int fee(Rate rate, int pence, int good, int tons, int day) {
            if (!rate.isPrinted(day) || tons < rate.least) {
                return -1;
            }
            int sought = rate.was == SPECIAL ? good : laws.value(rate.owner, day, CLASS_OF_GOOD + good);
            int each = perTon(rate, pence);
            if (rate.carried != sought || each < 0) {
                return -1;
            }
            int small = Math.min(laws.value(rate.owner, day, SMALL), MOST_TONS);
            return Math.max(tons, small) * (each + laws.value(rate.owner, day, TERM));
        }

        /** The most that the law lets it take a ton; -1 without a way. */
        int ceiling(Rate rate, int day) {
            int far = roads.between(ANY, rate.from, rate.to);
            if (far < 0) {
                return -1;
            }
            return far * laws.value(rate.owner, day, MOST_OF_CLASS + classOf(rate, day)) / 10;
        }

        int over(Rate rate, int day) {
            int ceiling = ceiling(rate, day);
            if (ceiling < 0 || rate.withdrawn || rate.was == SET) {
                return 0;
            }
            return Math.max(0, perTon(rate, rate.pence) - ceiling);
        }

        /** An owner's part of a through rate's pence; -1 without a way. */
        int share(Rate rate, int day, int owner) {
            int total = weigh(rate, day);
            if (total <= 0) {
                return -1;
            }
            int left = rate.pence;
            int mine = rate.pence * weights[owner] % total;
            int ahead = 0;
            for (int k = 0; k < OWNERS; k++) {
                left -= rate.pence * weights[k] / total;
                int rest = rate.pence * weights[k] % total;
                if (rest > mine || (rest == mine && k < owner)) {
                    ahead++;
                }
            }
            return rate.pence * weights[owner] / total + (ahead < left ? 1 : 0);
        }

        /** Fills in what each owner's part is in proportion to, and answers the sum. */
        private int weigh(Rate rate, int day) {
            Arrays.fill(weights, 0);
            roads.addMilesOfOwners(rate.from, rate.to, weights);
            boolean alike = laws.value(rate.owner, day, BY_MILES) == 0;
            int total = 0;
            for (int k = 0; k < OWNERS; k++) {
                if (alike && weights[k] > 0) {
                    weights[k] = 1;
                }
                total += weights[k];
            }
            return total;
        }
    }

    /** The trucks, and what is compared and claimed of them. */
    private static final class Trucks {
        private static final int TRUCKS = 80;

        private final Rates rates;
        private final Laws laws;
        private final int[] rateOf = new int[TRUCKS];
        private final int[] goods = new int[TRUCKS];
        private final int[] tons = new int[TRUCKS];
        private final int[] paid = new int[TRUCKS];
        private final int[] days = new int[TRUCKS];
        private final int[] facts = new int[Law.FACTS];
        /** The trucks that markFriends found, the first so many. */
        private final int[] marked = new int[TRUCKS];
        private int markedCount;
        private int count;

        Trucks(Rates rates, Laws laws) {
            this.rates = rates;
            this.laws = laws;
        }

        boolean has(int n) {
            return n >= 0 && n < count;
        }

        boolean areFull() {
            return count >= TRUCKS;
        }

        int add(int rate, int good, int ton, int pence, int day) {
            rateOf[count] = rate;
            goods[count] = good;
            tons[count] = ton;
            paid[count] = pence;
            days[count] = day;
            return count++;
        }

        private Rate rateOfTruck(int truck) {
            return rates.row(rateOf[truck]);
        }

        /** -1 if its rate doesn't serve it. */
        int dueOf(int truck) {
            Rate rate = rateOfTruck(truck);
            return rates.fee(rate, rate.pence, goods[truck], tons[truck], days[truck]);
        }

        private static int oneIf(boolean so) {
            return so ? 1 : 0;
        }

        private Law courtsLaw(int first, int second) {
            return laws.inForce(COURT, Math.max(days[first], days[second]));
        }

        private void gatherFacts(int first, int second) {
            Rate one = rateOfTruck(first);
            Rate other = rateOfTruck(second);
            int later = Math.max(days[first], days[second]);
            facts[Law.GOOD] = goods[first];
            facts[Law.CLASS] = laws.value(one.owner, later, CLASS_OF_GOOD + goods[first]);
            facts[Law.OWNER] = one.owner;
            facts[Law.TONS] = tons[first];
            facts[Law.DAYS] = Math.abs(days[first] - days[second]);
            facts[Law.BOATS] = oneIf(one.was == BOAT || other.was == BOAT);
            facts[Law.SHARED] = oneIf(one.owner == other.owner);
        }

        boolean areSame(int first, int second) {
            Rate one = rateOfTruck(first);
            Rate other = rateOfTruck(second);
            if (goods[first] != goods[second] || one.from != other.from || one.to != other.to) {
                return false;
            }
            gatherFacts(first, second);
            return Law.judge(courtsLaw(first, second).same, facts, true);
        }

        boolean areUnlike(int first, int second) {
            if (paid[first] * tons[second] == paid[second] * tons[first] || !areSame(first, second)) {
                return false;
            }
            return !Law.judge(courtsLaw(first, second).excuse, facts, false);
        }

        int countUnlike() {
            int twos = 0;
            for (int a = 0; a < count; a++) {
                for (int b = a + 1; b < count; b++) {
                    twos += oneIf(areUnlike(a, b));
                }
            }
            return twos;
        }

        int firstUnlike(boolean greater) {
            for (int a = 0; a < count; a++) {
                for (int b = a + 1; b < count; b++) {
                    if (areUnlike(a, b)) {
                        return greater ? b : a;
                    }
                }
            }
            return NONE;
        }

        long claims(int station, int today) {
            int back = laws.value(COURT, today, BACK);
            int gain = laws.value(COURT, today, GAIN);
            long sum = 0;
            for (int t = 0; t < count; t++) {
                int age = today - days[t];
                if (rateOfTruck(t).from == station && age <= back) {
                    sum += claim(t, gain, age);
                }
            }
            return sum;
        }

        private long claim(int truck, int gain, int age) {
            int fee = dueOf(truck);
            if (fee < 0 || fee >= paid[truck]) {
                return 0;
            }
            long much = paid[truck] - fee;
            return much + much * gain * (age / 365) / 1000;
        }

        int markFriends(int owner, int good, int from, int to, int first, int last) {
            markedCount = 0;
            for (int t = 0; t < count; t++) {
                Rate rate = rateOfTruck(t);
                boolean alike = rate.owner == owner && goods[t] == good && rate.from == from && rate.to == to;
                if (alike && days[t] >= first && days[t] <= last) {
                    marked[markedCount++] = t;
                }
            }
            return markedCount;
        }

        private int paidPerTon(int truck) {
            return tons[truck] < 1 ? 0 : paid[truck] / tons[truck];
        }

        int leastPaid() {
            int least = greatestPaid();
            for (int k = 0; k < markedCount; k++) {
                least = Math.min(least, paidPerTon(marked[k]));
            }
            return least;
        }

        int greatestPaid() {
            int greatest = 0;
            for (int k = 0; k < markedCount; k++) {
                greatest = Math.max(greatest, paidPerTon(marked[k]));
            }
            return greatest;
        }

        int rebate() {
            int greatest = greatestPaid();
            int sum = 0;
            for (int k = 0; k < markedCount; k++) {
                int truck = marked[k];
                sum += Math.max(0, greatest * tons[truck] - paid[truck]);
            }
            return sum;
        }
    }

    /** The cheapest lawful charge to one station, over several rates. */
    private static final class Carriage {
        private static final int MOST_LEGS = 8;
        /** Above any sum of charges, yet far enough below the greatest int that a charge can be added. */
        private static final int NO_SUM = 1000000000;

        private final Rates rates;
        /** What each rate charges, -1 if it doesn't serve. */
        private final int[] fees = new int[Rates.RATES];
        /** The rates that serve, by number, the first so many. */
        private final int[] serving = new int[Rates.RATES];
        /** The least sums from each station, by 0 rates, then by 1 at most, and so on. */
        private final int[] sums = new int[(MOST_LEGS + 1) * STATIONS];
        private int servingCount;
        /** With more rates than these no sum becomes less. */
        private int legsThatHelp;

        Carriage(Rates rates) {
            this.rates = rates;
        }

        void price(int good, int tons, int day) {
            servingCount = 0;
            for (int r = 0; r < rates.count; r++) {
                Rate rate = rates.row(r);
                fees[r] = rates.fee(rate, rate.pence, good, tons, day);
                if (fees[r] >= 0) {
                    serving[servingCount++] = r;
                }
            }
        }

        void reach(int to) {
            for (int s = 0; s < STATIONS; s++) {
                sums[s] = s == to ? 0 : NO_SUM;
            }
            legsThatHelp = 0;
            for (int legs = 1; legs <= MOST_LEGS; legs++) {
                if (!addLeg(legs)) {
                    return;
                }
                legsThatHelp = legs;
            }
        }

        private boolean addLeg(int legs) {
            int row = legs * STATIONS;
            int before = row - STATIONS;
            System.arraycopy(sums, before, sums, row, STATIONS);
            boolean helps = false;
            for (int k = 0; k < servingCount; k++) {
                Rate rate = rates.row(serving[k]);
                int sum = sums[before + rate.to] + fees[serving[k]];
                if (sum < sums[row + rate.from]) {
                    sums[row + rate.from] = sum;
                    helps = true;
                }
            }
            return helps;
        }

        /** The least sum from a station, or -1. */
        int leastFrom(int from) {
            int sum = sums[legsThatHelp * STATIONS + from];
            return sum >= NO_SUM ? -1 : sum;
        }

        /** The fewest rates by which the least sum can be had. */
        int legsFrom(int from) {
            int least = sums[legsThatHelp * STATIONS + from];
            for (int legs = 0; legs < legsThatHelp; legs++) {
                if (sums[legs * STATIONS + from] == least) {
                    return legs;
                }
            }
            return legsThatHelp;
        }

        /** The least rate with which a least sum by so many rates begins, or -1. */
        private int firstLeg(int from, int legs) {
            if (legs < 1) {
                return -1;
            }
            int row = legs * STATIONS;
            for (int k = 0; k < servingCount; k++) {
                Rate rate = rates.row(serving[k]);
                int sum = sums[row - STATIONS + rate.to] + fees[serving[k]];
                if (rate.from == from && sum == sums[row + from]) {
                    return serving[k];
                }
            }
            return -1;
        }

        /** Rate i of the cheapest, or -1. */
        int leg(int from, int i) {
            int at = from;
            int legs = legsFrom(from);
            for (int k = 0; k < MOST_LEGS; k++) {
                int rate = firstLeg(at, legs - k);
                if (k == i || rate < 0) {
                    return rate;
                }
                at = rates.row(rate).to;
            }
            return -1;
        }

        /** What an owner has of the cheapest, or all have. */
        int takenBy(int owner, int from) {
            int sum = 0;
            int legs = legsFrom(from);
            int at = from;
            for (int k = 0; k < legs; k++) {
                int number = firstLeg(at, legs - k);
                if (number < 0) {
                    return sum;
                }
                Rate rate = rates.row(number);
                if (owner == ANY || rate.owner == owner) {
                    sum += fees[number];
                }
                at = rate.to;
            }
            return sum;
        }
    }

    /** The wants, what is taken of them, and the list of rates that may be raised. */
    private static final class Wants {
        private static final int WANTS = 20, LISTED = 10;

        private final Rates rates;
        private final Carriage carriage;
        private final int[] froms = new int[WANTS];
        private final int[] tos = new int[WANTS];
        private final int[] goods = new int[WANTS];
        private final int[] tons = new int[WANTS];
        private final int[] pence = new int[WANTS];
        private final int[] listed = new int[LISTED];
        private final int[] raisedPence = new int[LISTED];
        /** What the listed rates charge for a want as they are, -1 if they don't serve, and raised. */
        private final int[] plainFees = new int[LISTED];
        private final int[] raisedFees = new int[LISTED];
        /** By sets of listed rates as bits: what is taken of one want, and of all. */
        private final int[] takenOfOne = new int[1 << LISTED];
        private final int[] takenOfAll = new int[1 << LISTED];
        private int count;
        private int listCount;

        Wants(Rates rates, Carriage carriage) {
            this.rates = rates;
            this.carriage = carriage;
        }

        boolean has(int n) {
            return n >= 0 && n < count;
        }

        boolean areFull() {
            return count >= WANTS;
        }

        int add(int from, int to, int good, int ton, int penny) {
            froms[count] = from;
            tos[count] = to;
            goods[count] = good;
            tons[count] = ton;
            pence[count] = penny;
            return count++;
        }

        private boolean isWorth(int want) {
            carriage.reach(tos[want]);
            int least = carriage.leastFrom(froms[want]);
            return least >= 0 && least <= tons[want] * pence[want];
        }

        boolean goes(int want, int day) {
            carriage.price(goods[want], tons[want], day);
            return isWorth(want);
        }

        int sumTaken(int owner, int day) {
            int sum = 0;
            for (int w = 0; w < count; w++) {
                if (goes(w, day)) {
                    sum += carriage.takenBy(owner, froms[w]);
                }
            }
            return sum;
        }

        boolean isListed(int rate) {
            for (int k = 0; k < listCount; k++) {
                if (listed[k] == rate) {
                    return true;
                }
            }
            return false;
        }

        boolean listIsFull() {
            return listCount >= LISTED;
        }

        int enlist(int rate) {
            listed[listCount++] = rate;
            return listCount;
        }

        /** The set of listed rates to raise, as bits; -1 if none does. */
        int fewestRaised(int much, int today) {
            int sets = 1 << listCount;
            Arrays.fill(takenOfAll, 0);
            for (int k = 0; k < listCount; k++) {
                raisedPence[k] = Math.min(MOST_PENCE, rates.ceiling(rates.row(listed[k]), today));
            }
            for (int w = 0; w < count; w++) {
                addTakenBySets(w, sets, today);
            }
            int best = -1;
            for (int set = 0; set < sets; set++) {
                boolean fewer = best < 0 || Integer.bitCount(set) < Integer.bitCount(best);
                if (takenOfAll[set] >= much && fewer) {
                    best = set;
                }
            }
            return best;
        }

        /** Most listed rates change nothing for one want, so few sets are reckoned out. */
        private void addTakenBySets(int want, int sets, int today) {
            carriage.price(goods[want], tons[want], today);
            int changing = priceListed(want, today);
            for (int set = 0; set < sets; set++) {
                int felt = set & changing;
                takenOfOne[set] = felt == set ? takenIfRaised(want, set) : takenOfOne[felt];
                takenOfAll[set] += takenOfOne[set];
            }
        }

        /** The places on the list, as bits, whose rates serve a want and charge otherwise if raised. */
        private int priceListed(int want, int today) {
            int changing = 0;
            for (int k = 0; k < listCount; k++) {
                Rate rate = rates.row(listed[k]);
                plainFees[k] = carriage.fees[listed[k]];
                raisedFees[k] = rates.fee(rate, raisedPence[k], goods[want], tons[want], today);
                if (plainFees[k] != raisedFees[k]) {
                    changing |= 1 << k;
                }
            }
            return changing;
        }

        private int takenIfRaised(int want, int set) {
            for (int k = 0; k < listCount; k++) {
                boolean isRaised = (set >> k & 1) == 1;
                carriage.fees[listed[k]] = isRaised ? raisedFees[k] : plainFees[k];
            }
            return isWorth(want) ? carriage.leastFrom(froms[want]) : 0;
        }
    }

    /** The acts of rates: bodies by kind, found from a kind on upwards. */
    private static final class Acts {
        private static final int CHARGES = 0, SPLITS = 1, ENDS = 2, ACTS = 3;
        private static final int KEPT = 20, DEEPEST = 30;
        private static final int NO_KIND = -1;

        private static final int[] ABOVE = {NO_KIND, PLAIN, PLAIN, PLAIN, THROUGH, PLAIN, PLAIN};
        /** Bodies of each kind for the three acts; 0 where it has none. */
        private static final int[] BODIES = {
            10, 11, 12,
            0, 20, 0,
            30, 0, 0,
            40, 0, 0,
            0, 51, 50,
            0, 0, 60,
            70, 0, 71,
        };

        private final int[] kept = new int[KEPT];
        private int ran;
        private int kind;
        private int number;
        private int owner;
        private int pence;

        void forget() {
            ran = 0;
        }

        boolean keeps(int i) {
            return i >= 0 && i < ran && i < KEPT;
        }

        static boolean isUnder(int kind, int above) {
            int at = kind;
            for (int k = 0; k < KINDS && at != NO_KIND; k++) {
                if (at == above) {
                    return true;
                }
                at = ABOVE[at];
            }
            return false;
        }

        int run(Rate rate, int act, int x) {
            kind = rate.kind();
            number = rate.number;
            owner = rate.owner;
            pence = rate.pence;
            return send(kind, act, x, 0);
        }

        private static int bodyFrom(int kind, int act) {
            int at = kind;
            for (int k = 0; k < KINDS && at != NO_KIND; k++) {
                int body = BODIES[at * ACTS + act];
                if (body != 0) {
                    return body;
                }
                at = ABOVE[at];
            }
            return 0;
        }

        /** Runs the body that a kind has, or the next kind above it that has one. */
        private int send(int from, int act, int x, int depth) {
            int body = bodyFrom(from, act);
            if (body == 0 || depth > DEEPEST) {
                return 0;
            }
            if (ran < KEPT) {
                kept[ran] = body;
            }
            ran++;
            return body < 50 ? upperBody(body, x, depth + 1) : lowerBody(body, x, depth + 1);
        }

        private int upperBody(int body, int x, int depth) {
            switch (body) {
                case 10:
                    return x + pence;
                case 11:
                    return send(kind, CHARGES, x, depth) - owner;
                case 12:
                    return send(kind, SPLITS, x, depth) * 2;
                case 20:
                    return send(ABOVE[THROUGH], SPLITS, x, depth) ^ number;
                case 30:
                    return send(ABOVE[SPECIAL], CHARGES, x, depth) - 1;
                default:
                    return send(ABOVE[TOLL], CHARGES, x * 2, depth);
            }
        }

        private int lowerBody(int body, int x, int depth) {
            switch (body) {
                case 50:
                    return send(ABOVE[BOAT], ENDS, x, depth) + send(kind, SPLITS, 1, depth);
                case 51:
                    return send(ABOVE[BOAT], SPLITS, x, depth) + 4;
                case 60:
                    return -send(ABOVE[SET], ENDS, x, depth);
                case 70:
                    return number;
                default:
                    return send(kind, CHARGES, x, depth) + send(ABOVE[WITHDRAWN], ENDS, x, depth);
            }
        }
    }

    /** The tapes. Items of every sort are held as longs that were cut to the sort when they came. */
    private static final class Tapes {
        private static final int TAPES = 6, LONGEST = 80;
        private static final int EMPTY = -1, BYTES = 0, SHORTS = 1, INTS = 2, SORTS = 4;

        private final int[] sorts = new int[TAPES];
        private final int[] sizes = new int[TAPES];
        private final long[][] cells = new long[TAPES][LONGEST];

        Tapes() {
            Arrays.fill(sorts, EMPTY);
        }

        void lay(int tape, int sort, int n) {
            sorts[tape] = sort;
            sizes[tape] = n;
            Arrays.fill(cells[tape], 0);
        }

        /** As longs: place and number together may be beyond the greatest int. */
        boolean reaches(int tape, int i, int n) {
            return i >= 0 && n >= 0 && (long) i + n <= sizes[tape];
        }

        static long cut(int sort, long v) {
            switch (sort) {
                case BYTES:
                    return (byte) v;
                case SHORTS:
                    return (short) v;
                case INTS:
                    return (int) v;
                default:
                    return v;
            }
        }
    }
}
