import java.util.ArrayList;
import java.util.Arrays;
import java.util.Collections;
import java.util.Comparator;
import java.util.List;
import java.util.regex.Matcher;
import java.util.regex.Pattern;

/**
 * The document once more, for the tests: slow, with the Java library, and by other ways than PennyRates
 * goes: texts by a pattern, ways and cheapest charges forwards with whole paths kept, acts by real
 * classes above one another, tapes by real rows.
 */
final class Model {
    static final int NONE = -1, BAD = -2, STATE = -3, FULL = -4, NOTHING = -11, CAST = -12, PLACE = -13, SIZE = -14;
    static final long NO = Long.MIN_VALUE;

    private static final Pattern TEXT = textPattern();

    int today = 0;
    final List<int[]> lines = new ArrayList<>();
    final StringBuilder text = new StringBuilder();
    final List<Law> laws = new ArrayList<>();
    final List<Rate> rates = new ArrayList<>();
    final List<int[]> trucks = new ArrayList<>();
    final List<int[]> wants = new ArrayList<>();
    final List<Integer> listed = new ArrayList<>();
    final List<Integer> trace = new ArrayList<>();
    final Object[] tapes = new Object[6];
    int bookEnd = STATE;

    static final class Law {
        int number, owner, day;
        String[] clauses;
    }

    static final class Rate {
        int number, was, owner, from, to, pence, cls, since, until = -1, least = 1, instead = -1;
        boolean out;
    }

    private static Pattern textPattern() {
        String n = "[0-9]{1,4}";
        String test = "(?:g=" + n + "|c=" + n + "|o=" + n + "|t<" + n + "|t>" + n + "|d<" + n + "|d>" + n + "|b|x)";
        String f = test;
        for (int k = 0; k < 5; k++) {
            f = "(?:" + test + "|!" + f + "|\\((?:" + f + "[&|])*" + f + "\\))";
        }
        String e = "(?:" + f + "[&|])*" + f;
        String clause = "(?:good (?:[0-9]|1[0-9]) [0-9]|most [0-9] " + n + "|(?:term|small|notice|back|gain) " + n
            + "|miles|even|(?:same|excuse) " + e + ")";
        return Pattern.compile("(?:" + clause + ";){0,9}" + clause, Pattern.DOTALL);
    }

    static int fault(String s) {
        for (int p = 0; p < s.length(); p++) {
            Matcher m = TEXT.matcher(s.substring(0, p + 1));
            if (!m.matches() && !m.hitEnd()) {
                return p;
            }
        }
        return TEXT.matcher(s).matches() ? -1 : s.length();
    }

    // ---- numbers

    private static boolean in(int n, int least, int greatest) {
        return n >= least && n <= greatest;
    }

    private static boolean owner(int n) {
        return in(n, 0, 5);
    }

    private static boolean stations(int a, int b) {
        return in(a, 0, 15) && in(b, 0, 15);
    }

    private static boolean good(int n) {
        return in(n, 0, 19);
    }

    private static boolean day(int n) {
        return in(n, 0, 9999);
    }

    private static boolean tons(int n) {
        return in(n, 1, 99);
    }

    private boolean isRate(int n) {
        return in(n, 0, rates.size() - 1);
    }

    // ---- lines

    int pass(int n) {
        if (!in(n, 1, 400) || today > 9999 - n) return BAD;
        return today += n;
    }

    int line(int owner, int a, int b, int miles) {
        if (!owner(owner) || !stations(a, b)) return NONE;
        if (a == b || !in(miles, 1, 200)) return BAD;
        if (lines.size() == 40) return FULL;
        lines.add(new int[] {owner, a, b, miles});
        return lines.size() - 1;
    }

    private int lineBeside(int owner, int a, int b) {
        int best = -1;
        for (int k = 0; k < lines.size(); k++) {
            int[] l = lines.get(k);
            boolean joins = (l[1] == a && l[2] == b) || (l[1] == b && l[2] == a);
            if (joins && (owner == -1 || l[0] == owner) && (best < 0 || l[3] < lines.get(best)[3])) {
                best = k;
            }
        }
        return best;
    }

    /** The stations of the way, or null. */
    private List<Integer> stationsOfWay(int owner, int a, int b) {
        List<List<Integer>> paths = new ArrayList<>(Collections.nCopies(16, (List<Integer>) null));
        int[] miles = new int[16];
        int[][] hop = new int[16][16];
        for (int u = 0; u < 16; u++) {
            for (int v = 0; v < 16; v++) {
                hop[u][v] = lineBeside(owner, u, v);
            }
        }
        paths.set(a, new ArrayList<>(List.of(a)));
        boolean more = true;
        while (more) {
            more = false;
            for (int u = 0; u < 16; u++) {
                for (int v = 0; v < 16; v++) {
                    if (paths.get(u) == null || hop[u][v] < 0 || paths.get(u).contains(v)) {
                        continue;
                    }
                    List<Integer> path = new ArrayList<>(paths.get(u));
                    path.add(v);
                    int far = miles[u] + lines.get(hop[u][v])[3];
                    List<Integer> old = paths.get(v);
                    if (old == null || far < miles[v] || (far == miles[v] && less(path, old))) {
                        paths.set(v, path);
                        miles[v] = far;
                        more = true;
                    }
                }
            }
        }
        return paths.get(b);
    }

    private static boolean less(List<Integer> a, List<Integer> b) {
        for (int k = 0; k < Math.min(a.size(), b.size()); k++) {
            if (!a.get(k).equals(b.get(k))) {
                return a.get(k) < b.get(k);
            }
        }
        return false;
    }

    /** The lines of the way, or null. */
    private List<Integer> linesOfWay(int owner, int a, int b) {
        List<Integer> path = stationsOfWay(owner, a, b);
        if (path == null) {
            return null;
        }
        List<Integer> on = new ArrayList<>();
        for (int k = 1; k < path.size(); k++) {
            on.add(lineBeside(owner, path.get(k - 1), path.get(k)));
        }
        return on;
    }

    private int milesOf(int owner, int a, int b) {
        List<Integer> on = linesOfWay(owner, a, b);
        return on == null ? -1 : on.stream().mapToInt(l -> lines.get(l)[3]).sum();
    }

    int miles(int owner, int a, int b) {
        if (!in(owner, -1, 5) || !stations(a, b)) return NONE;
        int far = milesOf(owner, a, b);
        return far < 0 ? STATE : far;
    }

    int way(int a, int b, int i) {
        if (!stations(a, b)) return NONE;
        List<Integer> on = linesOfWay(-1, a, b);
        return on == null || !in(i, 0, on.size() - 1) ? NONE : on.get(i);
    }

    // ---- laws

    int feed(int bytes, int n) {
        if (!in(n, 0, 4)) return BAD;
        if (text.length() + n > 140) return FULL;
        for (int k = n; k > 0; k--) {
            text.append((char) ((bytes >>> (8 * (k - 1))) & 255));
        }
        return text.length();
    }

    int law(int owner, int day) {
        if (!in(owner, -1, 5)) return NONE;
        if (!day(day)) return BAD;
        if (laws.size() == 16) return FULL;
        String s = text.toString();
        text.setLength(0);
        int fault = fault(s);
        if (fault >= 0) return -10 - fault;
        Law law = new Law();
        law.number = laws.size();
        law.owner = owner;
        law.day = day;
        law.clauses = s.split(";");
        laws.add(law);
        return law.number;
    }

    private Law lawOf(int owner, int day) {
        return laws.stream().filter(l -> l.owner == owner && l.day <= day)
            .max(Comparator.comparingInt((Law l) -> l.day).thenComparingInt(l -> l.number)).orElse(null);
    }

    /** What stands behind the last clause that begins so, or null. */
    private static String behind(Law law, String start) {
        String found = null;
        for (String clause : law == null ? new String[0] : law.clauses) {
            if (clause.startsWith(start)) {
                found = clause.substring(start.length());
            }
        }
        return found;
    }

    private int told(int owner, int day, String start, int usual) {
        String own = behind(lawOf(owner, day), start);
        String s = own != null ? own : behind(lawOf(-1, day), start);
        return s == null ? usual : Integer.parseInt(s);
    }

    private int classOf(int owner, int day, int good) {
        return told(owner, day, "good " + good + " ", good % 10);
    }

    private static int lastOfBoth(Law law) {
        int found = -1;
        for (String clause : law == null ? new String[0] : law.clauses) {
            found = clause.equals("miles") ? 1 : clause.equals("even") ? 0 : found;
        }
        return found;
    }

    private int byMiles(int owner, int day) {
        int own = lastOfBoth(lawOf(owner, day));
        return own >= 0 ? own : Math.max(0, lastOfBoth(lawOf(-1, day)));
    }

    private int most(int owner, int day, int cls) {
        return told(owner, day, "most " + cls + " ", 9999);
    }

    int holds(int owner, int day, int what) {
        if (!in(owner, -1, 5) || !day(day)) return -5;
        if (what == 0) return lawOf(owner, day) == null ? -1 : lawOf(owner, day).number;
        if (what == 1) return told(owner, day, "term ", 0);
        if (what == 2) return told(owner, day, "small ", 1);
        if (what == 3) return told(owner, day, "notice ", 0);
        if (what == 4) return told(owner, day, "back ", 365);
        if (what == 5) return told(owner, day, "gain ", 0);
        if (what == 6) return byMiles(owner, day);
        if (in(what, 10, 19)) return most(owner, day, what - 10);
        if (in(what, 20, 39)) return classOf(owner, day, what - 20);
        return -5;
    }

    // ---- rates

    private static boolean pence(int kind, int n) {
        return in(n, 0, kind == 3 ? 99 : 9999);
    }

    private int addRate(int kind, int owner, int from, int to, int pence, int cls, int since) {
        Rate r = new Rate();
        r.number = rates.size();
        r.was = kind;
        r.owner = owner;
        r.from = from;
        r.to = to;
        r.pence = pence;
        r.cls = cls;
        r.since = since;
        rates.add(r);
        return r.number;
    }

    int rate(int kind, int owner, int from, int to, int pence, int day, int cls) {
        if (!owner(owner) || !stations(from, to)) return NONE;
        if (!List.of(0, 1, 3, 4).contains(kind) || from == to || !in(cls, 0, 9)) return BAD;
        if (!pence(kind, pence) || !in(day, today, 9999)) return BAD;
        if (rates.size() == 60) return FULL;
        return addRate(kind, owner, from, to, pence, cls, Math.max(day, today + holds(owner, today, 3)));
    }

    int special(int owner, int from, int to, int pence, int good, int least) {
        if (!owner(owner) || !stations(from, to) || !good(good)) return NONE;
        if (from == to || !pence(2, pence) || !tons(least)) return BAD;
        if (rates.size() == 60) return FULL;
        int number = addRate(2, owner, from, to, pence, good, today + holds(owner, today, 3));
        rates.get(number).least = least;
        return number;
    }

    int withdraw(int rate) {
        if (!isRate(rate)) return NONE;
        Rate r = rates.get(rate);
        if (r.out || r.was == 5) return STATE;
        r.out = true;
        r.until = today;
        return 1;
    }

    int set(int rate, int pence) {
        if (!isRate(rate)) return NONE;
        if (!pence(0, pence)) return BAD;
        Rate r = rates.get(rate);
        if (r.out || r.was == 5) return STATE;
        if (rates.size() == 60) return FULL;
        int cls = r.was == 2 ? classOf(r.owner, today, r.cls) : r.cls;
        int number = addRate(5, r.owner, r.from, r.to, pence, cls, today);
        rates.get(number).instead = rate;
        r.out = true;
        r.until = today;
        return number;
    }

    int undo(int set) {
        if (!isRate(set)) return NONE;
        Rate s = rates.get(set);
        if (s.out || s.was != 5) return CAST;
        s.out = true;
        s.until = today;
        Rate r = rates.get(s.instead);
        r.out = false;
        r.until = -1;
        return r.number;
    }

    private int kind(Rate r) {
        return r.out ? 6 : r.was;
    }

    int of(int rate, int what) {
        if (!isRate(rate) || !in(what, 0, 10)) return -5;
        Rate r = rates.get(rate);
        return new int[] {kind(r), r.was, r.owner, r.from, r.to, r.pence, r.cls, r.since, r.until, r.least, r.instead}[what];
    }

    /** Pence a ton, or -1 for a toll without a way. */
    private int each(Rate r) {
        if (r.was != 3) return r.pence;
        int far = milesOf(r.owner, r.from, r.to);
        return far < 0 ? -1 : far * r.pence / 10;
    }

    /** -1: it doesn't serve. */
    private int fee(Rate r, int good, int tons, int day) {
        boolean printed = r.since <= day && (r.until == -1 || r.until > day);
        boolean fits = r.was == 2 ? r.cls == good : r.cls == classOf(r.owner, day, good);
        if (!printed || !fits || tons < r.least || each(r) < 0) return -1;
        int small = Math.min(99, holds(r.owner, day, 2));
        return Math.max(tons, small) * (each(r) + holds(r.owner, day, 1));
    }

    int charge(int rate, int good, int tons, int day) {
        if (!isRate(rate) || !good(good)) return NONE;
        if (!tons(tons) || !day(day)) return BAD;
        int fee = fee(rates.get(rate), good, tons, day);
        return fee < 0 ? STATE : fee;
    }

    private int mostOf(Rate r, int day) {
        int far = milesOf(-1, r.from, r.to);
        int cls = r.was == 2 ? classOf(r.owner, day, r.cls) : r.cls;
        return far < 0 ? -1 : far * most(r.owner, day, cls) / 10;
    }

    int most3(int rate, int day, int what) {
        if (!isRate(rate) || !in(what, 0, 1)) return NONE;
        if (!day(day)) return BAD;
        Rate r = rates.get(rate);
        int most = mostOf(r, day);
        if (what == 0) return most < 0 ? STATE : most;
        if (most < 0 || r.out || r.was == 5) return 0;
        return Math.max(0, Math.max(0, each(r)) - most);
    }

    int part(int rate, int day, int owner) {
        if (!isRate(rate) || !owner(owner)) return NONE;
        Rate r = rates.get(rate);
        if (r.was != 1 && r.was != 4) return CAST;
        if (!day(day)) return BAD;
        List<Integer> on = linesOfWay(-1, r.from, r.to);
        if (on == null) return STATE;
        int[] miles = new int[6];
        on.forEach(l -> miles[lines.get(l)[0]] += lines.get(l)[3]);
        List<Integer> sharers = new ArrayList<>();
        for (int o = 0; o < 6; o++) {
            if (miles[o] > 0) {
                sharers.add(o);
            }
        }
        if (byMiles(r.owner, day) == 0) {
            sharers.forEach(o -> miles[o] = 1);
        }
        int total = Arrays.stream(miles).sum();
        int[] parts = new int[6];
        sharers.forEach(o -> parts[o] = r.pence * miles[o] / total);
        int left = r.pence - Arrays.stream(parts).sum();
        sharers.sort(Comparator.comparingInt((Integer o) -> -(r.pence * miles[o] % total)).thenComparingInt(o -> o));
        for (int k = 0; k < left; k++) {
            parts[sharers.get(k)]++;
        }
        return parts[owner];
    }

    // ---- trucks

    int truck(int rate, int good, int tons, int paid, int day) {
        if (!isRate(rate) || !good(good)) return NONE;
        if (!tons(tons) || !in(paid, 0, 99999) || !in(day, 0, today)) return BAD;
        if (trucks.size() == 80) return FULL;
        trucks.add(new int[] {rate, good, tons, paid, day});
        return trucks.size() - 1;
    }

    int book(int tape, int i, int n) {
        if (!in(tape, 0, 5)) return NONE;
        if (!in(n, 1, 16)) return BAD;
        if (tapes[tape] != null && !(tapes[tape] instanceof int[])) return CAST;
        int[] row = tapes[tape] == null ? new int[0] : (int[]) tapes[tape];
        for (int k = 0; k < n; k++) {
            long at = i + 5L * k;
            if (at < 0 || at + 5 > row.length) {
                bookEnd = 1;
                return k;
            }
            int p = (int) at;
            int came = truck(row[p], row[p + 1], row[p + 2], row[p + 3], row[p + 4]);
            if (came < 0) {
                bookEnd = came == FULL ? 3 : 2;
                return k;
            }
        }
        bookEnd = 0;
        return n;
    }

    int ended() {
        return bookEnd;
    }

    private int dueOf(int[] t) {
        return fee(rates.get(t[0]), t[1], t[2], t[4]);
    }

    int due(int truck) {
        if (!in(truck, 0, trucks.size() - 1)) return NONE;
        int due = dueOf(trucks.get(truck));
        return due < 0 ? STATE : due;
    }

    /** Where a sign stands outside of all brackets, or -1. */
    private static int outside(String e, char sign) {
        int within = 0;
        for (int k = 0; k < e.length(); k++) {
            char c = e.charAt(k);
            within += c == '(' ? 1 : c == ')' ? -1 : 0;
            if (within == 0 && c == sign) {
                return k;
            }
        }
        return -1;
    }

    private boolean says(String e, int[] a, int[] b) {
        int or = outside(e, '|');
        if (or >= 0) return says(e.substring(0, or), a, b) | says(e.substring(or + 1), a, b);
        int and = outside(e, '&');
        if (and >= 0) return says(e.substring(0, and), a, b) & says(e.substring(and + 1), a, b);
        if (e.startsWith("!")) return !says(e.substring(1), a, b);
        if (e.startsWith("(")) return says(e.substring(1, e.length() - 1), a, b);
        Rate r = rates.get(a[0]);
        Rate s = rates.get(b[0]);
        if (e.equals("b")) return r.was == 4 || s.was == 4;
        if (e.equals("x")) return r.owner == s.owner;
        int n = Integer.parseInt(e.substring(2));
        switch (e.substring(0, 2)) {
            case "g=": return a[1] == n;
            case "c=": return classOf(r.owner, Math.max(a[4], b[4]), a[1]) == n;
            case "o=": return r.owner == n;
            case "t<": return a[2] < n;
            case "t>": return a[2] > n;
            case "d<": return Math.abs(a[4] - b[4]) < n;
            default: return Math.abs(a[4] - b[4]) > n;
        }
    }

    private boolean courtSays(String word, int[] a, int[] b, boolean usual) {
        String e = behind(lawOf(-1, Math.max(a[4], b[4])), word);
        return e == null ? usual : says(e, a, b);
    }

    private boolean same(int[] a, int[] b) {
        Rate r = rates.get(a[0]);
        Rate s = rates.get(b[0]);
        return r.from == s.from && r.to == s.to && a[1] == b[1] && courtSays("same ", a, b, true);
    }

    private boolean unlike(int[] a, int[] b) {
        return same(a, b) && a[3] * b[2] != b[3] * a[2] && !courtSays("excuse ", a, b, false);
    }

    int unlike(int a, int b, int what) {
        if (!in(a, 0, trucks.size() - 1) || !in(b, 0, trucks.size() - 1)) return NONE;
        if (a == b) return BAD;
        if (!in(what, 0, 1)) return NONE;
        int[] first = trucks.get(Math.min(a, b));
        int[] second = trucks.get(Math.max(a, b));
        return (what == 0 ? same(first, second) : unlike(first, second)) ? 1 : 0;
    }

    int unlikes(int what) {
        if (!in(what, 0, 2)) return NONE;
        int twos = 0;
        for (int a = 0; a < trucks.size(); a++) {
            for (int b = a + 1; b < trucks.size(); b++) {
                if (unlike(trucks.get(a), trucks.get(b))) {
                    if (what > 0) return what == 1 ? a : b;
                    twos++;
                }
            }
        }
        return what == 0 ? twos : NONE;
    }

    long suit(int station) {
        if (!in(station, 0, 15)) return NO;
        long sum = 0;
        for (int[] t : trucks) {
            int age = today - t[4];
            int due = dueOf(t);
            if (rates.get(t[0]).from == station && age <= holds(-1, today, 4) && due >= 0 && due < t[3]) {
                long much = t[3] - due;
                sum += much + much * holds(-1, today, 5) * (age / 365) / 1000;
            }
        }
        return sum;
    }

    /** The sum, then the rates; null without. */
    private List<Integer> cheapest(int from, int to, int good, int tons, int day) {
        List<List<Integer>> at = new ArrayList<>(Collections.nCopies(16, (List<Integer>) null));
        at.set(from, new ArrayList<>(List.of(0)));
        List<Integer> best = null;
        int[] fees = rates.stream().mapToInt(r -> fee(r, good, tons, day)).toArray();
        for (int k = 0; k < 8; k++) {
            List<List<Integer>> next = new ArrayList<>(Collections.nCopies(16, (List<Integer>) null));
            for (Rate r : rates) {
                if (fees[r.number] < 0 || at.get(r.from) == null) {
                    continue;
                }
                List<Integer> path = new ArrayList<>(at.get(r.from));
                path.set(0, path.get(0) + fees[r.number]);
                path.add(r.number);
                if (next.get(r.to) == null || less(path, next.get(r.to))) {
                    next.set(r.to, path);
                }
            }
            at = next;
            if (at.get(to) != null && (best == null || at.get(to).get(0) < best.get(0))) {
                best = at.get(to);
            }
        }
        return best;
    }

    int cheap(int from, int to, int good, int tons, int day, int what) {
        if (!stations(from, to) || !good(good) || !(what == 0 || what == 1 || what >= 10)) return NONE;
        if (from == to || !tons(tons) || !day(day)) return BAD;
        List<Integer> best = cheapest(from, to, good, tons, day);
        if (best == null) return STATE;
        if (what < 2) return what == 0 ? best.get(0) : best.size() - 1;
        return what - 9 < best.size() ? best.get(what - 9) : NONE;
    }

    int cry(int station, int to, int good, int tons, int day) {
        if (!stations(station, to) || !good(good)) return NONE;
        if (station == to || !tons(tons) || !day(day)) return BAD;
        List<Integer> mine = cheapest(station, to, good, tons, day);
        int far = milesOf(-1, station, to);
        if (mine == null || far < 0) return STATE;
        int cries = 0;
        for (int s = 0; s < 16; s++) {
            List<Integer> other = s == to ? null : cheapest(s, to, good, tons, day);
            if (other != null && milesOf(-1, s, to) > far && other.get(0) < mine.get(0)) {
                cries++;
            }
        }
        return cries;
    }

    // ---- wants

    int want(int from, int to, int good, int tons, int pence) {
        if (!stations(from, to) || !good(good)) return NONE;
        if (from == to || !tons(tons) || !in(pence, 0, 999)) return BAD;
        if (wants.size() == 20) return FULL;
        wants.add(new int[] {from, to, good, tons, pence});
        return wants.size() - 1;
    }

    /** The cheapest of a want that ships; else null. */
    private List<Integer> shipped(int[] w, int day) {
        List<Integer> best = cheapest(w[0], w[1], w[2], w[3], day);
        return best != null && best.get(0) <= w[3] * w[4] ? best : null;
    }

    int ships(int want, int day) {
        if (!in(want, 0, wants.size() - 1)) return NONE;
        if (!day(day)) return BAD;
        return shipped(wants.get(want), day) != null ? 1 : 0;
    }

    int takings(int owner, int day) {
        if (!in(owner, -1, 5)) return NONE;
        if (!day(day)) return BAD;
        int sum = 0;
        for (int[] w : wants) {
            List<Integer> best = shipped(w, day);
            for (int k = 1; best != null && k < best.size(); k++) {
                Rate r = rates.get(best.get(k));
                if (owner == -1 || r.owner == owner) {
                    sum += fee(r, w[2], w[3], day);
                }
            }
        }
        return sum;
    }

    int tries(int rate, int pence, int day) {
        if (!isRate(rate)) return NONE;
        Rate r = rates.get(rate);
        if (!pence(r.was, pence) || !day(day)) return BAD;
        if (r.out) return STATE;
        int before = r.pence;
        r.pence = pence;
        int sum = takings(-1, day);
        r.pence = before;
        return sum;
    }

    int list(int rate) {
        if (!isRate(rate)) return NONE;
        Rate r = rates.get(rate);
        if (listed.contains(rate) || r.out || r.was == 3 || milesOf(-1, r.from, r.to) < 0) return STATE;
        if (listed.size() == 10) return FULL;
        listed.add(rate);
        return listed.size();
    }

    int listless() {
        int had = listed.size();
        listed.clear();
        return had;
    }

    int change(int much) {
        if (much < 0) return BAD;
        List<Integer> sets = new ArrayList<>();
        for (int set = 0; set < 1 << listed.size(); set++) {
            sets.add(set);
        }
        sets.sort(Comparator.comparingInt((Integer s) -> Integer.bitCount(s)).thenComparingInt(s -> s));
        int[] before = rates.stream().mapToInt(r -> r.pence).toArray();
        int answer = STATE;
        for (int set : sets) {
            for (int k = 0; k < listed.size(); k++) {
                Rate r = rates.get(listed.get(k));
                r.pence = (set & 1 << k) != 0 ? Math.min(9999, mostOf(r, today)) : before[r.number];
            }
            if (takings(-1, today) >= much) {
                answer = set;
                break;
            }
        }
        rates.forEach(r -> r.pence = before[r.number]);
        return answer;
    }

    int friends(int owner, int good, int from, int to, int first, int last, int what) {
        if (!owner(owner) || !good(good) || !stations(from, to) || !in(what, 0, 3)) return NONE;
        if (!day(first) || !day(last) || first > last) return BAD;
        List<int[]> found = new ArrayList<>();
        for (int[] t : trucks) {
            Rate r = rates.get(t[0]);
            if (r.owner == owner && t[1] == good && r.from == from && r.to == to && in(t[4], first, last)) {
                found.add(t);
            }
        }
        int greatest = found.stream().mapToInt(t -> t[3] / t[2]).max().orElse(0);
        if (what == 0) return found.size();
        if (what == 1) return found.stream().mapToInt(t -> t[3] / t[2]).min().orElse(0);
        if (what == 2) return greatest;
        return found.stream().mapToInt(t -> Math.max(0, greatest * t[2] - t[3])).sum();
    }

    // ---- acts: the bodies as the document writes them, in classes above one another

    static class Plain {
        List<Integer> ran;
        int n, o, p;

        int charges(int x) {
            ran.add(10);
            return x + p;
        }

        int splits(int x) {
            ran.add(11);
            return charges(x) - o;
        }

        int ends(int x) {
            ran.add(12);
            return splits(x) * 2;
        }
    }

    static class Through extends Plain {
        @Override int splits(int x) {
            ran.add(20);
            return super.splits(x) ^ n;
        }
    }

    static class Special extends Plain {
        @Override int charges(int x) {
            ran.add(30);
            return super.charges(x) - 1;
        }
    }

    static class Toll extends Plain {
        @Override int charges(int x) {
            ran.add(40);
            return super.charges(x * 2);
        }
    }

    static class Boat extends Through {
        @Override int ends(int x) {
            ran.add(50);
            return super.ends(x) + splits(1);
        }

        @Override int splits(int x) {
            ran.add(51);
            return super.splits(x) + 4;
        }
    }

    static class CourtSet extends Plain {
        @Override int ends(int x) {
            ran.add(60);
            return -super.ends(x);
        }
    }

    static class Withdrawn extends Plain {
        @Override int charges(int x) {
            ran.add(70);
            return n;
        }

        @Override int ends(int x) {
            ran.add(71);
            return charges(x) + super.ends(x);
        }
    }

    private Plain actor(int kind) {
        switch (kind) {
            case 0: return new Plain();
            case 1: return new Through();
            case 2: return new Special();
            case 3: return new Toll();
            case 4: return new Boat();
            case 5: return new CourtSet();
            default: return new Withdrawn();
        }
    }

    int act(int rate, int act, int x) {
        trace.clear();
        if (!isRate(rate) || !in(act, 0, 2)) return 0;
        Rate r = rates.get(rate);
        Plain actor = actor(kind(r));
        actor.ran = trace;
        actor.n = rate;
        actor.o = r.owner;
        actor.p = r.pence;
        return act == 0 ? actor.charges(x) : act == 1 ? actor.splits(x) : actor.ends(x);
    }

    int trace(int i) {
        return in(i, 0, Math.min(20, trace.size()) - 1) ? trace.get(i) : NONE;
    }

    int taken(int rate, int k) {
        if (!in(k, 0, 6)) return BAD;
        if (!isRate(rate)) return NOTHING;
        int kind = kind(rates.get(rate));
        return actor(k).getClass().isInstance(actor(kind)) ? kind : CAST;
    }

    int count(int what) {
        int[] counts = {today, lines.size(), laws.size(), rates.size(), trucks.size(), wants.size(), listed.size(),
            text.length(), trace.size()};
        return in(what, 0, 8) ? counts[what] : BAD;
    }

    // ---- tapes

    int tape(int tape, int sort, int n) {
        if (!in(tape, 0, 5)) return NONE;
        if (!in(sort, -1, 3) || (sort >= 0 && n > 80)) return BAD;
        if (sort >= 0 && n < 0) return SIZE;
        tapes[tape] = sort == -1 ? null : sort == 0 ? new byte[n] : sort == 1 ? new short[n]
            : sort == 2 ? new int[n] : new long[n];
        return 1;
    }

    int item(int tape, int i, long v) {
        if (!in(tape, 0, 5)) return NONE;
        Object row = tapes[tape];
        if (row == null) return NOTHING;
        if (!in(i, 0, java.lang.reflect.Array.getLength(row) - 1)) return PLACE;
        if (row instanceof byte[]) ((byte[]) row)[i] = (byte) v;
        if (row instanceof short[]) ((short[]) row)[i] = (short) v;
        if (row instanceof int[]) ((int[]) row)[i] = (int) v;
        if (row instanceof long[]) ((long[]) row)[i] = v;
        return 1;
    }

    long read(int tape, int i) {
        if (!in(tape, 0, 5) || tapes[tape] == null) return NO;
        if (!in(i, 0, java.lang.reflect.Array.getLength(tapes[tape]) - 1)) return NO;
        return java.lang.reflect.Array.getLong(tapes[tape], i);
    }

    int shift(int tape, int i, int other, int j, int n) {
        if (!in(tape, 0, 5) || !in(other, 0, 5)) return NONE;
        if (tapes[tape] == null || tapes[other] == null) return NOTHING;
        if (tapes[tape].getClass() != tapes[other].getClass()) return CAST;
        try {
            System.arraycopy(tapes[tape], i, tapes[other], j, n);
        } catch (IndexOutOfBoundsException e) {
            return PLACE;
        }
        return n;
    }
}
