/**
 * Edges of term 7 and promises 35 to 38, a method for each sentence, which stands above it.
 * What is refused for its numbers alone is in RefusalsTest.
 */
public final class ActsEdgesTest {
    private static final Check CHECK = new Check("ActsEdgesTest");
    private static final int LEAST = Integer.MIN_VALUE, GREATEST = Integer.MAX_VALUE;
    private static final int[] XS = {0, 1, -1, 2, -2, 99, LEAST, LEAST + 1, LEAST / 2, LEAST / 2 - 1, GREATEST, GREATEST - 1,
        GREATEST / 2, GREATEST / 2 + 1, 0x55555555};

    private static void due(String call, long got, long want) {
        CHECK.due(call, got, want);
    }

    public static void main(String[] args) {
        wrapping();
        greatestNumbers();
        noTraceThen();
        traceOfTheLatest();
        twentyAreKept();
        withdrawnAsSix();
        takenForAKind();
        counts();
        countsAtTheirEnds();
        CHECK.end();
    }

    /** Rates 0 to 6 of kinds 0 to 4, 6 and 5, all of this owner; their number is their place. */
    private static PennyRates kinds(int owner, int pence, int tenths) {
        PennyRates x = new PennyRates();
        x.rate(0, owner, 0, 1, pence, 0, 0);
        x.rate(1, owner, 0, 1, pence, 0, 0);
        x.special(owner, 0, 1, pence, 0, 1);
        x.rate(3, owner, 0, 1, tenths, 0, 0);
        x.rate(4, owner, 0, 1, pence, 0, 0);
        x.rate(0, owner, 0, 1, pence, 0, 0);
        x.set(5, pence);
        return x;
    }

    /** "with x (wrapping)" */
    private static void wrapping() {
        int o = 5;
        int p = 9999;
        PennyRates x = kinds(o, p, 99);
        for (int v : XS) {
            String told = " with " + v;
            due("rate charges" + told, x.act(0, 0, v), v + p);
            due("rate splits" + told, x.act(0, 1, v), v + p - o);
            due("rate ends" + told, x.act(0, 2, v), (v + p - o) * 2);
            due("through charges" + told, x.act(1, 0, v), v + p);
            due("through splits" + told, x.act(1, 1, v), (v + p - o) ^ 1);
            due("through ends" + told, x.act(1, 2, v), ((v + p - o) ^ 1) * 2);
            due("special charges" + told, x.act(2, 0, v), v + p - 1);
            due("special splits" + told, x.act(2, 1, v), v + p - 1 - o);
            due("special ends" + told, x.act(2, 2, v), (v + p - 1 - o) * 2);
            due("toll charges" + told, x.act(3, 0, v), v * 2 + 99);
            due("toll splits" + told, x.act(3, 1, v), v * 2 + 99 - o);
            due("toll ends" + told, x.act(3, 2, v), (v * 2 + 99 - o) * 2);
            int splits = ((v + p - o) ^ 4) + 4;
            int splitsOne = ((1 + p - o) ^ 4) + 4;
            due("boat charges" + told, x.act(4, 0, v), v + p);
            due("boat splits" + told, x.act(4, 1, v), splits);
            due("boat ends" + told, x.act(4, 2, v), splits * 2 + splitsOne);
            due("withdrawn charges" + told, x.act(5, 0, v), 5);
            due("withdrawn splits" + told, x.act(5, 1, v), 5 - o);
            due("withdrawn ends" + told, x.act(5, 2, v), 5 + (5 - o) * 2);
            due("set charges" + told, x.act(6, 0, v), v + p);
            due("set splits" + told, x.act(6, 1, v), v + p - o);
            due("set ends" + told, x.act(6, 2, v), -((v + p - o) * 2));
        }
        PennyRates y = kinds(0, 0, 0);
        due("the least doubled", y.act(0, 2, LEAST), 0);
        due("half the least doubled and negated", y.act(6, 2, LEAST / 2), LEAST);
        due("one below the least", y.act(2, 0, LEAST), GREATEST);
        due("4 above the greatest", y.act(4, 1, GREATEST), (GREATEST ^ 4) + 4);
        due("the greatest and 4, past the end", y.act(4, 1, GREATEST - 4), GREATEST + 4);
    }

    /** "n its number, o its OWNER, p its PENCE": 59, 5, 9999 at most. */
    private static void greatestNumbers() {
        PennyRates x = new PennyRates();
        for (int k = 0; k < 60; k++) {
            x.rate(4, 5, 0, 1, 9999, 0, 0);
        }
        due("a boat splits", x.act(59, 1, 0), ((9999 - 5) ^ 59) + 4);
        due("a boat charges", x.act(59, 0, 1), 10000);
        x.withdraw(59);
        due("withdrawn charges", x.act(59, 0, 1), 59);
        due("withdrawn ends", x.act(59, 2, 1), 59 + (59 - 5) * 2);
        x.withdraw(0);
        due("number 0 withdrawn", x.act(0, 0, 77), 0);
        due("it has a trace", x.trace(0), 70);
    }

    /** "0, and no TRACE then: no such RATE, act." */
    private static void noTraceThen() {
        PennyRates x = kinds(1, 7, 7);
        int[][] none = {{-1, 0}, {7, 0}, {60, 0}, {LEAST, 0}, {GREATEST, 0}, {0, -1}, {0, 3}, {0, LEAST}, {0, GREATEST},
            {-1, -1}, {7, 3}};
        for (int[] n : none) {
            x.act(4, 2, 5);
            due("ten bodies", x.count(8), 10);
            due("rate " + n[0] + ", act " + n[1], x.act(n[0], n[1], 5), 0);
            due("no bodies then", x.count(8), 0);
            due("no trace then", x.trace(0), -1);
        }
        for (int rate = 0; rate < 7; rate++) {
            for (int act : new int[] {-1, 3, 4}) {
                x.act(rate, 2, 5);
                due("act " + act + " of rate " + rate, x.act(rate, act, 5), 0);
                due("no trace of it", x.count(8), 0);
            }
        }
        PennyRates y = new PennyRates();
        due("no rate at all", y.act(0, 0, 5), 0);
    }

    /** "the numbers of the bodies that ran in the latest act(), as they began" */
    private static void traceOfTheLatest() {
        PennyRates x = kinds(1, 7, 7);
        int[] boat = {50, 12, 51, 20, 11, 10, 51, 20, 11, 10};
        int[][][] bodies = {{{10}, {11, 10}, {12, 11, 10}}, {{10}, {20, 11, 10}, {12, 20, 11, 10}},
            {{30, 10}, {11, 30, 10}, {12, 11, 30, 10}}, {{40, 10}, {11, 40, 10}, {12, 11, 40, 10}},
            {{10}, {51, 20, 11, 10}, boat}, {{70}, {11, 70}, {71, 70, 12, 11, 70}}, {{10}, {11, 10}, {60, 12, 11, 10}}};
        for (int rate = 0; rate < 7; rate++) {
            for (int act = 0; act < 3; act++) {
                x.act(rate, act, 5);
                int[] want = bodies[rate][act];
                due("rate " + rate + " act " + act, x.count(8), want.length);
                for (int i = 0; i < want.length; i++) {
                    due("rate " + rate + " act " + act + " body " + i, x.trace(i), want[i]);
                }
                due("its end", x.trace(want.length), -1);
            }
        }
        x.act(4, 2, 5);
        due("its end", x.trace(10), -1);
        x.act(0, 0, 5);
        due("a shorter one", x.trace(0), 10);
        due("none of the one ahead", x.trace(1), -1);
        due("one body", x.count(8), 1);
        x.of(0, 0);
        x.charge(0, 0, 1, 0);
        x.rate(0, 0, 0, 1, 5, 0, 0);
        due("other calls leave it", x.trace(0), 10);
    }

    /** "the first 20 are kept": no act runs more than ten. */
    private static void twentyAreKept() {
        PennyRates x = kinds(1, 7, 7);
        for (int rate = 0; rate < 7; rate++) {
            for (int act = 0; act < 3; act++) {
                x.act(rate, act, 3);
                int ran = x.count(8);
                CHECK.holds("one to ten ran", ran >= 1 && ran <= 10);
                for (int i = -1; i < 22; i++) {
                    CHECK.holds("body " + i, x.trace(i) == -1 != (i >= 0 && i < ran));
                }
            }
        }
    }

    /** "ACTS of RATES by KIND (WITHDRAWN: as 6)": a withdrawn rate's are not those of what it was. */
    private static void withdrawnAsSix() {
        PennyRates x = kinds(2, 7, 7);
        for (int rate = 0; rate < 5; rate++) {
            x.withdraw(rate);
        }
        x.undo(6);
        x.withdraw(5);
        int[] ends = {71, 70, 12, 11, 70};
        for (int rate = 0; rate < 7; rate++) {
            due("charges " + rate, x.act(rate, 0, 9), rate);
            due("splits " + rate, x.act(rate, 1, 9), rate - 2);
            due("ends " + rate, x.act(rate, 2, 9), rate + (rate - 2) * 2);
            for (int i = 0; i < ends.length; i++) {
                due("ends " + rate + " body " + i, x.trace(i), ends[i]);
            }
        }
        PennyRates y = kinds(2, 7, 7);
        y.set(4, 1);
        due("a boat behind its set", y.act(4, 0, 9), 4);
        y.undo(7);
        due("undone: a boat again", y.act(4, 0, 9), 16);
        due("its splits", y.act(4, 1, 9) == ((16 - 2) ^ 4) + 4 ? y.trace(0) : 0, 51);
    }

    /** "A RATE taken for one of KIND k (0 .. 6), or one under that: its KIND (WITHDRAWN: 6)." */
    private static void takenForAKind() {
        PennyRates x = kinds(1, 7, 7);
        int[] kinds = {0, 1, 2, 3, 4, 6, 5};
        boolean[][] under = new boolean[7][7];
        for (int kind = 0; kind < 7; kind++) {
            under[kind][0] = true;
            under[kind][kind] = true;
        }
        under[4][1] = true;
        for (int rate = 0; rate < 7; rate++) {
            for (int k = 0; k < 7; k++) {
                due(rate + " for " + k, x.taken(rate, k), under[kinds[rate]][k] ? kinds[rate] : -12);
            }
        }
        x.withdraw(4);
        due("a withdrawn boat is no boat", x.taken(4, 4), -12);
        due("nor a through", x.taken(4, 1), -12);
        due("it is withdrawn", x.taken(4, 6), 6);
        due("and under rate", x.taken(4, 0), 6);
        x.undo(6);
        due("an undone set is none", x.taken(6, 5), -12);
        due("it is withdrawn too", x.taken(6, 6), 6);
        due("its rate is one again", x.taken(5, 0), 0);
        due("and no longer withdrawn", x.taken(5, 6), -12);
    }

    /** "How many: 0 TODAY, 1 LINES, .. BAD.": each counts its own alone. */
    private static void counts() {
        PennyRates x = new PennyRates();
        x.rate(0, 0, 0, 1, 5, 0, 0);
        x.line(0, 0, 1, 5);
        int[] want = {0, 1, 0, 1, 0, 0, 0, 0, 0};
        counted(x, want);
        x.pass(1);
        want[0]++;
        counted(x, want);
        x.line(0, 0, 1, 5);
        want[1]++;
        counted(x, want);
        Check.law(x, 0, 0, "even");
        want[2]++;
        counted(x, want);
        x.special(0, 0, 1, 5, 0, 1);
        want[3]++;
        counted(x, want);
        x.set(1, 5);
        want[3]++;
        counted(x, want);
        x.undo(2);
        x.withdraw(1);
        counted(x, want);
        x.truck(0, 0, 1, 5, 0);
        want[4]++;
        counted(x, want);
        x.want(0, 1, 0, 1, 5);
        want[5]++;
        counted(x, want);
        x.list(0);
        want[6]++;
        counted(x, want);
        x.feed(0, 3);
        want[7] += 3;
        counted(x, want);
        x.act(0, 2, 0);
        want[8] = 3;
        counted(x, want);
        x.listless();
        x.law(0, 0);
        x.act(0, 3, 0);
        want[6] = 0;
        want[7] = 0;
        want[8] = 0;
        counted(x, want);
    }

    private static void counted(PennyRates x, int[] want) {
        for (int what = 0; what < 9; what++) {
            due("count " + what, x.count(what), want[what]);
        }
    }

    /** "How many": all that can be. */
    private static void countsAtTheirEnds() {
        PennyRates x = new PennyRates();
        for (int k = 0; k < 100; k++) {
            x.line(0, 0, 1, 5);
            x.rate(0, 0, 0, 1, 5, 0, 0);
            x.truck(0, 0, 1, 5, 0);
            x.want(0, 1, 0, 1, 5);
            x.list(k);
            Check.law(x, 0, 0, x.count(2) < 16 ? "even" : "xx");
        }
        for (int k = 0; k < 25; k++) {
            x.pass(k < 24 ? 400 : 399);
        }
        counted(x, new int[] {9999, 40, 16, 60, 80, 20, 10, 140, 0});
    }
}
