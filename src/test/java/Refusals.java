import java.util.ArrayList;
import java.util.List;

/**
 * One call with numbers that it takes, and all for which it may be refused, in the order in which the
 * document names it. go() asks with every set of these faults at once: the answer that is due is that of
 * the first of them, and nothing may have changed.
 */
final class Refusals {
    interface Call {
        long on(PennyRates x, int[] a);
    }

    interface Setting {
        void of(PennyRates x);
    }

    /** Numbers put in at some places (any one row of them), or a state that the object is brought into. */
    private record Fault(long answer, int[] places, int[][] rows, Setting state, boolean changes) {
        boolean meets(Fault other) {
            for (int place : places) {
                for (int otherPlace : other.places) {
                    if (place == otherPlace) {
                        return true;
                    }
                }
            }
            return false;
        }
    }

    static final int LEAST = Integer.MIN_VALUE, GREATEST = Integer.MAX_VALUE;

    private final Check check;
    private final String name;
    private final Setting ready;
    private final Call call;
    private final int[] good;
    private final List<Fault> faults = new ArrayList<>();

    Refusals(Check check, String name, Setting ready, Call call, int... good) {
        this.check = check;
        this.name = name;
        this.ready = ready;
        this.call = call;
        this.good = good;
    }

    private PennyRates made() {
        PennyRates x = new PennyRates();
        ready.of(x);
        return x;
    }

    /** Each of these numbers at this place is let through, all others being the good ones: so it answers. */
    Refusals lets(int place, long answer, int... numbers) {
        for (int number : numbers) {
            int[] a = good.clone();
            a[place] = number;
            check.due(told(a), call.on(made(), a), answer);
        }
        return this;
    }

    /** Refused for any of these numbers at this place. */
    Refusals number(long answer, int place, int... numbers) {
        int[][] rows = new int[numbers.length][];
        for (int k = 0; k < numbers.length; k++) {
            rows[k] = new int[] {numbers[k]};
        }
        faults.add(new Fault(answer, new int[] {place}, rows, null, false));
        return this;
    }

    /** Refused for these two numbers at these two places, though each of them would do alone. */
    Refusals numbers(long answer, int place, int otherPlace, int number, int otherNumber) {
        faults.add(new Fault(answer, new int[] {place, otherPlace}, new int[][] {{number, otherNumber}}, null, false));
        return this;
    }

    /** Refused outside of these two, themselves let through, next to them and at the ends of int. */
    Refusals outside(long answer, int place, int least, int greatest) {
        return number(answer, place, least - 1, greatest + 1, LEAST, GREATEST);
    }

    /** Refused in this state. */
    Refusals state(long answer, Setting state) {
        faults.add(new Fault(answer, new int[0], new int[][] {{}}, state, false));
        return this;
    }

    /** As state, but this answer is none of those that change nothing. */
    Refusals changing(long answer, Setting state) {
        faults.add(new Fault(answer, new int[0], new int[][] {{}}, state, true));
        return this;
    }

    void go() {
        int sets = 1 << faults.size();
        for (int set = 1; set < sets; set++) {
            List<Fault> at = new ArrayList<>();
            for (int k = 0; k < faults.size(); k++) {
                if ((set >> k & 1) == 1) {
                    at.add(faults.get(k));
                }
            }
            if (canMeet(at)) {
                askWith(at);
            }
        }
    }

    private static boolean canMeet(List<Fault> at) {
        for (int a = 0; a < at.size(); a++) {
            for (int b = a + 1; b < at.size(); b++) {
                if (at.get(a).meets(at.get(b))) {
                    return false;
                }
            }
        }
        return true;
    }

    /** One fault: each of its rows. Several: each of the first one's rows, with two of the others' each. */
    private void askWith(List<Fault> at) {
        Fault first = at.get(0);
        for (int row = 0; row < first.rows.length; row++) {
            for (int turn = 0; turn < (at.size() == 1 ? 1 : 2); turn++) {
                PennyRates x = made();
                int[] a = good.clone();
                for (Fault fault : at) {
                    put(fault, a, fault == first ? row : turn % fault.rows.length, x);
                }
                long before = Print.of(x);
                check.due(told(a) + " of " + at.size() + " faults", call.on(x, a), first.answer);
                if (!first.changes) {
                    check.due("all that was there after " + told(a), Print.of(x), before);
                }
            }
        }
    }

    private static void put(Fault fault, int[] a, int row, PennyRates x) {
        for (int k = 0; k < fault.places.length; k++) {
            a[fault.places[k]] = fault.rows[row][k];
        }
        if (fault.state != null) {
            fault.state.of(x);
        }
    }

    private String told(int[] a) {
        StringBuilder s = new StringBuilder(name).append('(');
        for (int k = 0; k < a.length; k++) {
            s.append(k == 0 ? "" : ", ").append(a[k]);
        }
        return s.append(')').toString();
    }
}
