import java.util.Random;

/** All promises at once: long runs of calls by lot, each answer against that of the model. */
public final class ModelTest {
    private static final Check CHECK = new Check("ModelTest");
    private static final int RUNS = 300, CALLS = 512;

    private final Random lot;
    private final PennyRates x = new PennyRates();
    private final Model m = new Model();
    private final int run;
    /** Few stations, goods and classes, so that calls meet one another. */
    private final int stations;
    private final int goods;
    private final int wild;
    /** In every second run laws and withdrawals are rare, so that much goes by the same rates. */
    private final boolean calm;
    private boolean wrong = false;

    private ModelTest(int run) {
        this.run = run;
        lot = new Random(run * 7919L + 13);
        stations = 2 + lot.nextInt(run % 3 == 0 ? 15 : 5);
        calm = run % 2 == 0;
        goods = 1 + lot.nextInt(calm ? 2 : 4);
        wild = run % 5 == 0 ? 12 : 60;
    }

    public static void main(String[] args) {
        int runs = args.length > 0 ? Integer.parseInt(args[0]) : RUNS;
        for (int run = 0; run < runs; run++) {
            new ModelTest(run).go();
        }
        CHECK.end();
    }

    private void go() {
        setUp();
        for (int k = 0; k < CALLS && !wrong; k++) {
            switch (lot.nextInt(7)) {
                case 0: lines(); break;
                case 1: laws(); break;
                case 2: rates(); break;
                case 3: trucks(); break;
                case 4: carriage(); break;
                case 5: wants(); break;
                default: actsAndTapes(); break;
            }
        }
    }

    /** Some of all, so that later calls have something to meet. */
    private void setUp() {
        for (int k = lot.nextInt(calm ? 30 : 12); k > 0; k--) {
            line();
        }
        if (calm) {
            feed("most 0 " + (1 + lot.nextInt(60)) + ";most 1 " + (1 + lot.nextInt(60)));
            due("law(-1,0)", x.law(-1, 0), m.law(-1, 0));
        }
        for (int k = lot.nextInt(calm ? 40 : 14); k > 0; k--) {
            rate();
        }
        for (int k = lot.nextInt(8); k > 0; k--) {
            truck();
        }
        for (int k = lot.nextInt(calm ? 16 : 6); k > 0; k--) {
            want();
        }
    }

    private void due(String call, long got, long want) {
        CHECK.due("run " + run + ": " + call, got, want);
        wrong |= got != want;
    }

    // ---- numbers by lot: mostly as told, now and then just beside, or far off

    private int number(int least, int greatest) {
        if (lot.nextInt(wild) == 0) {
            int[] odd = {least - 1, greatest + 1, -1, -2, 0, Integer.MAX_VALUE, Integer.MIN_VALUE, least, greatest};
            return odd[lot.nextInt(odd.length)];
        }
        return greatest < least ? least : least + lot.nextInt(greatest - least + 1);
    }

    private int owner() {
        return number(0, 2 + run % 4);
    }

    private int anOwnerOrNone() {
        return number(-1, 2 + run % 4);
    }

    private int station() {
        return lot.nextInt(wild) == 0 ? number(-1, 16) : lot.nextInt(stations);
    }

    /** Mostly another one than this. */
    private int stationBut(int a) {
        int b = station();
        return b != a || lot.nextInt(9) == 0 ? b : (a + 1) % stations;
    }

    private int good() {
        return lot.nextInt(calm ? 20 : 8) == 0 ? number(0, 19) : number(0, goods - 1) + (lot.nextInt(4) == 0 ? 10 : 0);
    }

    private int day() {
        if (calm && lot.nextInt(3) > 0) {
            return m.today;
        }
        return lot.nextInt(9) == 0 ? number(0, 9999) : number(0, Math.max(5, m.today + 3));
    }

    private int past() {
        return number(0, m.today);
    }

    private int tons() {
        return lot.nextBoolean() ? number(1, 9) : number(1, 99);
    }

    private int aRate() {
        return number(0, m.rates.size() - 1);
    }

    private int aTruck() {
        return number(0, m.trucks.size() - 1);
    }

    private int pence(int kind) {
        return lot.nextInt(4) > 0 ? number(0, 30) : number(0, kind == 3 ? 99 : 9999);
    }

    // ---- calls

    private void lines() {
        switch (lot.nextInt(4)) {
            case 0: line(); break;
            case 1: {
                int o = anOwnerOrNone(), a = station(), b = stationBut(a);
                due("miles(" + o + "," + a + "," + b + ")", x.miles(o, a, b), m.miles(o, a, b));
                break;
            }
            case 2: {
                int a = station(), b = stationBut(a), i = number(0, 4);
                due("way(" + a + "," + b + "," + i + ")", x.way(a, b, i), m.way(a, b, i));
                break;
            }
            default: {
                int n = lot.nextInt(3) == 0 ? number(1, 400) : number(1, 5);
                due("pass(" + n + ")", x.pass(n), m.pass(n));
            }
        }
    }

    private void line() {
        int o = owner(), a = station(), b = stationBut(a), n = lot.nextInt(3) == 0 ? number(1, 200) : number(1, 5);
        due("line(" + o + "," + a + "," + b + "," + n + ")", x.line(o, a, b, n), m.line(o, a, b, n));
    }

    private void feed(String text) {
        int k = 0;
        while (k < text.length()) {
            int n = Math.min(1 + lot.nextInt(4), text.length() - k);
            int bytes = lot.nextInt();
            for (int j = 0; j < n; j++) {
                bytes = bytes << 8 | text.charAt(k + j);
            }
            due("feed(" + bytes + "," + n + ")", x.feed(bytes, n), m.feed(bytes, n));
            k += n;
        }
    }

    private void laws() {
        if (lot.nextInt(calm ? 40 : 3) == 0) {
            feed(new LawLot(lot).text());
            int o = anOwnerOrNone(), d = day();
            due("law(" + o + "," + d + ") of '" + m.text + "'", x.law(o, d), m.law(o, d));
        } else if (lot.nextInt(9) == 0) {
            int bytes = lot.nextInt(), n = number(0, 4);
            due("feed(" + bytes + "," + n + ")", x.feed(bytes, n), m.feed(bytes, n));
        } else {
            int o = anOwnerOrNone(), d = day(), what = number(0, 40);
            due("holds(" + o + "," + d + "," + what + ")", x.holds(o, d, what), m.holds(o, d, what));
        }
    }

    private void rates() {
        int r = aRate(), d = day();
        switch (lot.nextInt(8)) {
            case 0: rate(); break;
            case 1: {
                int what = number(0, 10);
                due("of(" + r + "," + what + ")", x.of(r, what), m.of(r, what));
                break;
            }
            case 2: {
                if (lot.nextInt(calm ? 9 : 3) == 0) {
                    due("withdraw(" + r + ")", x.withdraw(r), m.withdraw(r));
                }
                break;
            }
            case 3: {
                int p = pence(0);
                if (lot.nextInt(calm ? 5 : 1) == 0) {
                    due("set(" + r + "," + p + ")", x.set(r, p), m.set(r, p));
                }
                break;
            }
            case 4: due("undo(" + r + ")", x.undo(r), m.undo(r)); break;
            case 5: {
                int g = good(), t = tons();
                due("charge(" + r + "," + g + "," + t + "," + d + ")", x.charge(r, g, t, d), m.charge(r, g, t, d));
                break;
            }
            case 6: {
                int what = number(0, 1);
                due("most(" + r + "," + d + "," + what + ")", x.most(r, d, what), m.most3(r, d, what));
                break;
            }
            default: {
                int o = owner();
                due("part(" + r + "," + d + "," + o + ")", x.part(r, d, o), m.part(r, d, o));
            }
        }
    }

    private void rate() {
        int o = owner(), a = station(), b = stationBut(a);
        if (lot.nextInt(4) == 0) {
            int p = pence(2), g = good(), t = lot.nextInt(3) == 0 ? number(1, 99) : number(1, 4);
            due("special(" + o + "," + a + "," + b + "," + p + "," + g + "," + t + ")",
                x.special(o, a, b, p, g, t), m.special(o, a, b, p, g, t));
            return;
        }
        int[] kinds = {0, 0, 1, 3, 4, 4};
        int kind = lot.nextInt(wild) == 0 ? number(-1, 7) : kinds[lot.nextInt(kinds.length)];
        int p = pence(kind), d = lot.nextBoolean() ? m.today : day(), c = number(0, goods - 1);
        due("rate(" + kind + "," + o + "," + a + "," + b + "," + p + "," + d + "," + c + ")",
            x.rate(kind, o, a, b, p, d, c), m.rate(kind, o, a, b, p, d, c));
    }

    private void trucks() {
        switch (lot.nextInt(7)) {
            case 0: truck(); break;
            case 1: book(); break;
            case 2: {
                int t = aTruck();
                due("due(" + t + ")", x.due(t), m.due(t));
                break;
            }
            case 3: {
                int a = aTruck(), b = aTruck(), what = number(0, 1);
                due("unlike(" + a + "," + b + "," + what + ")", x.unlike(a, b, what), m.unlike(a, b, what));
                break;
            }
            case 4: {
                int what = number(0, 2);
                due("unlikes(" + what + ")", x.unlikes(what), m.unlikes(what));
                break;
            }
            case 5: {
                int s = station();
                due("suit(" + s + ")", x.suit(s), m.suit(s));
                break;
            }
            default: friends();
        }
    }

    private void friends() {
        int o = owner(), g = good(), a = station(), b = stationBut(a), first = past(), last = day();
        if (!m.trucks.isEmpty() && lot.nextInt(4) > 0) {
            int[] truck = m.trucks.get(lot.nextInt(m.trucks.size()));
            Model.Rate rate = m.rates.get(truck[0]);
            o = rate.owner;
            g = truck[1];
            a = rate.from;
            b = rate.to;
            first = lot.nextInt(truck[4] + 1);
        }
        int what = number(0, 3);
        due("friends(" + o + "," + g + "," + a + "," + b + "," + first + "," + last + "," + what + ")",
            x.friends(o, g, a, b, first, last, what), m.friends(o, g, a, b, first, last, what));
    }

    private void truck() {
        int r = aRate(), g = good(), t = tons(), p = lot.nextBoolean() ? number(0, 99) : number(0, 99999), d = past();
        due("truck(" + r + "," + g + "," + t + "," + p + "," + d + ")",
            x.truck(r, g, t, p, d), m.truck(r, g, t, p, d));
    }

    private void book() {
        int tape = number(0, 5), rows = lot.nextInt(4), size = rows * 5 + lot.nextInt(4);
        if (lot.nextInt(3) > 0) {
            due("tape", x.tape(tape, 2, size), m.tape(tape, 2, size));
            for (int k = 0; k < rows * 5; k += 5) {
                int[] row = {aRate(), good(), tons(), number(0, 99999), past()};
                for (int j = 0; j < 5; j++) {
                    due("item", x.item(tape, k + j, row[j]), m.item(tape, k + j, row[j]));
                }
            }
        }
        int i = lot.nextInt(3) > 0 ? 0 : number(0, 15), n = number(1, 16);
        due("book(" + tape + "," + i + "," + n + ")", x.book(tape, i, n), m.book(tape, i, n));
        due("ended()", x.ended(), m.ended());
    }

    private void carriage() {
        int a = station(), b = stationBut(a), g = good(), t = tons(), d = day();
        if (lot.nextInt(4) == 0) {
            due("cry(" + a + "," + b + "," + g + "," + t + "," + d + ")", x.cry(a, b, g, t, d), m.cry(a, b, g, t, d));
            return;
        }
        int what = lot.nextInt(3) == 0 ? number(0, 1) : number(10, 14);
        due("cheap(" + a + "," + b + "," + g + "," + t + "," + d + "," + what + ")",
            x.cheap(a, b, g, t, d, what), m.cheap(a, b, g, t, d, what));
    }

    private void want() {
        int a = station(), b = stationBut(a), g = good(), t = tons(), p = number(0, lot.nextBoolean() ? 60 : 999);
        due("want(" + a + "," + b + "," + g + "," + t + "," + p + ")", x.want(a, b, g, t, p), m.want(a, b, g, t, p));
    }

    private void wants() {
        int d = day(), r = aRate();
        switch (lot.nextInt(8)) {
            case 0: want(); break;
            case 1: {
                int w = number(0, m.wants.size() - 1);
                due("ships(" + w + "," + d + ")", x.ships(w, d), m.ships(w, d));
                break;
            }
            case 2: {
                int o = anOwnerOrNone();
                due("takings(" + o + "," + d + ")", x.takings(o, d), m.takings(o, d));
                break;
            }
            case 3: {
                int p = pence(m.of(r, 1));
                due("tries(" + r + "," + p + "," + d + ")", x.tries(r, p, d), m.tries(r, p, d));
                break;
            }
            case 4:
            case 5: {
                if (m.listed.size() < 5 || lot.nextInt(6) == 0) {
                    due("list(" + r + ")", x.list(r), m.list(r));
                }
                break;
            }
            case 6: {
                if (lot.nextInt(5) == 0) {
                    due("listless()", x.listless(), m.listless());
                }
                break;
            }
            default: change();
        }
    }

    private void change() {
        if (m.listed.size() > 6) {
            due("listless()", x.listless(), m.listless());
        }
        int now = m.takings(-1, m.today);
        int much = lot.nextInt(4) == 0 ? number(0, 3 * now + 100) : now + lot.nextInt(lot.nextBoolean() ? 30 : now + 50);
        due("change(" + much + ")", x.change(much), m.change(much));
    }

    private void actsAndTapes() {
        int r = aRate(), tape = number(0, 5), i = number(0, 9);
        switch (lot.nextInt(8)) {
            case 0: {
                int act = number(0, 2), n = lot.nextBoolean() ? lot.nextInt() : number(0, 20);
                due("act(" + r + "," + act + "," + n + ")", x.act(r, act, n), m.act(r, act, n));
                break;
            }
            case 1: due("trace(" + i + ")", x.trace(i), m.trace(i)); break;
            case 2: {
                int k = number(0, 6);
                due("taken(" + r + "," + k + ")", x.taken(r, k), m.taken(r, k));
                break;
            }
            case 3: {
                int what = number(0, 8);
                due("count(" + what + ")", x.count(what), m.count(what));
                break;
            }
            case 4: {
                int sort = number(-1, 3), n = lot.nextInt(5) == 0 ? number(0, 80) : number(0, 12);
                due("tape(" + tape + "," + sort + "," + n + ")", x.tape(tape, sort, n), m.tape(tape, sort, n));
                break;
            }
            case 5: {
                long v = lot.nextBoolean() ? lot.nextLong() : lot.nextInt(40);
                due("item(" + tape + "," + i + "," + v + ")", x.item(tape, i, v), m.item(tape, i, v));
                break;
            }
            case 6: due("read(" + tape + "," + i + ")", x.read(tape, i), m.read(tape, i)); break;
            default: {
                int other = lot.nextBoolean() ? tape : number(0, 5), j = number(0, 5), n = number(0, 5);
                due("shift(" + tape + "," + i + "," + other + "," + j + "," + n + ")",
                    x.shift(tape, i, other, j, n), m.shift(tape, i, other, j, n));
            }
        }
    }
}
