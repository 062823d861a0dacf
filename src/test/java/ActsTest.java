/** Promises 35 to 38: act, trace, taken, count. */
public final class ActsTest {
    private static final Check CHECK = new Check("ActsTest");

    private static void due(String call, long got, long want) {
        CHECK.due(call, got, want);
    }

    public static void main(String[] args) {
        refusals();
        acts();
        wrapping();
        taken();
        count();
        CHECK.end();
    }

    /** A rate of each kind: 0 rate, 1 through, 2 special, 3 toll, 4 boat, 5 withdrawn, 6 set. */
    private static PennyRates kinds() {
        PennyRates x = new PennyRates();
        x.rate(0, 3, 0, 1, 100, 0, 0);
        x.rate(1, 3, 0, 1, 100, 0, 0);
        x.special(3, 0, 1, 100, 0, 1);
        x.rate(3, 3, 0, 1, 99, 0, 0);
        x.rate(4, 3, 0, 1, 100, 0, 0);
        x.rate(4, 3, 0, 1, 100, 0, 0);
        x.set(5, 100);
        return x;
    }

    private static void refusals() {
        PennyRates x = kinds();
        due("an act", x.act(0, 2, 5) != 0 ? 1 : 0, 1);
        due("bodies", x.count(8), 3);
        due("no such rate", x.act(7, 0, 5), 0);
        due("no trace then", x.trace(0), -1);
        due("no bodies then", x.count(8), 0);
        x.act(0, 0, 5);
        due("rate -1", x.act(-1, 0, 5), 0);
        due("no trace", x.count(8), 0);
        x.act(0, 0, 5);
        due("act -1", x.act(0, -1, 5), 0);
        due("no trace of act -1", x.count(8), 0);
        x.act(0, 0, 5);
        due("act 3", x.act(0, 3, 5), 0);
        due("no trace of act 3", x.count(8), 0);
        for (int rate = 0; rate < 7; rate++) {
            x.act(rate, 0, 5);
            due("act 3 of rate " + rate, x.act(rate, 3, 5), 0);
            due("no trace of act 3 of rate " + rate, x.count(8), 0);
        }
        x.act(0, 0, 5);
        due("i -1", x.trace(-1), -1);
        due("i 0", x.trace(0), 10);
        due("i 1", x.trace(1), -1);
        due("i greatest", x.trace(Integer.MAX_VALUE), -1);
    }

    private static void act(PennyRates x, int rate, int act, int want, int... bodies) {
        String call = "act " + rate + " " + act;
        due(call, x.act(rate, act, 5), want);
        due(call + " bodies", x.count(8), bodies.length);
        for (int k = 0; k < bodies.length; k++) {
            due(call + " body " + k, x.trace(k), bodies[k]);
        }
        due(call + " end", x.trace(bodies.length), -1);
    }

    private static void acts() {
        PennyRates x = kinds();
        act(x, 0, 0, 105, 10);
        act(x, 0, 1, 102, 11, 10);
        act(x, 0, 2, 204, 12, 11, 10);
        act(x, 1, 0, 105, 10);
        act(x, 1, 1, 102 ^ 1, 20, 11, 10);
        act(x, 1, 2, (102 ^ 1) * 2, 12, 20, 11, 10);
        act(x, 2, 0, 104, 30, 10);
        act(x, 2, 1, 101, 11, 30, 10);
        act(x, 2, 2, 202, 12, 11, 30, 10);
        act(x, 3, 0, 109, 40, 10);
        act(x, 3, 1, 106, 11, 40, 10);
        act(x, 3, 2, 212, 12, 11, 40, 10);
        act(x, 4, 0, 105, 10);
        act(x, 4, 1, (102 ^ 4) + 4, 51, 20, 11, 10);
        act(x, 4, 2, ((102 ^ 4) + 4) * 2 + (98 ^ 4) + 4, 50, 12, 51, 20, 11, 10, 51, 20, 11, 10);
        act(x, 5, 0, 5, 70);
        act(x, 5, 1, 5 - 3, 11, 70);
        act(x, 5, 2, 5 + (5 - 3) * 2, 71, 70, 12, 11, 70);
        act(x, 6, 0, 105, 10);
        act(x, 6, 1, 102, 11, 10);
        act(x, 6, 2, -204, 60, 12, 11, 10);
        x.undo(6);
        act(x, 6, 0, 6, 70);
        act(x, 5, 1, (102 ^ 5) + 4, 51, 20, 11, 10);
    }

    private static void wrapping() {
        PennyRates x = kinds();
        due("beyond the greatest", x.act(0, 0, Integer.MAX_VALUE), Integer.MAX_VALUE + 100);
        due("twice the greatest", x.act(3, 0, Integer.MAX_VALUE), 97);
        due("twice", x.act(0, 2, Integer.MAX_VALUE), (Integer.MAX_VALUE + 97) * 2);
        due("the least negated", x.act(6, 2, 0x40000000 - 97), Integer.MIN_VALUE);
    }

    private static void taken() {
        PennyRates x = kinds();
        int[] kinds = {0, 1, 2, 3, 4, 6, 5};
        for (int rate = 0; rate < 7; rate++) {
            for (int k = 0; k < 7; k++) {
                boolean under = k == 0 || k == kinds[rate] || (k == 1 && kinds[rate] == 4);
                due("rate " + rate + " for " + k, x.taken(rate, k), under ? kinds[rate] : -12);
            }
        }
        due("k -1", x.taken(0, -1), -2);
        due("k 7", x.taken(0, 7), -2);
        due("BAD ahead of NOTHING", x.taken(9, 7), -2);
        due("no such", x.taken(7, 0), -11);
        due("-1", x.taken(-1, 0), -11);
        x.undo(6);
        due("a boat again", x.taken(5, 1), 4);
        due("no set any more", x.taken(6, 5), -12);
    }

    private static void count() {
        PennyRates x = kinds();
        x.pass(9);
        x.line(0, 0, 1, 5);
        x.line(0, 0, 1, 5);
        Check.law(x, 0, 0, "even");
        x.truck(0, 0, 1, 1, 1);
        x.truck(0, 0, 1, 1, 1);
        x.truck(0, 0, 1, 1, 1);
        x.want(0, 1, 0, 1, 1);
        x.want(0, 1, 0, 1, 1);
        x.want(0, 1, 0, 1, 1);
        x.want(0, 1, 0, 1, 1);
        x.list(0);
        x.list(1);
        x.list(2);
        x.list(4);
        x.list(6);
        x.feed(0, 4);
        x.feed(0, 2);
        x.act(4, 2, 1);
        int[] counts = {9, 2, 1, 7, 3, 4, 5, 6, 10};
        for (int what = 0; what < 9; what++) {
            due("count " + what, x.count(what), counts[what]);
        }
        due("what -1", x.count(-1), -2);
        due("what 9", x.count(9), -2);
    }
}
