import java.lang.reflect.InvocationTargetException;
import java.lang.reflect.Method;
import java.lang.reflect.Modifier;
import java.util.ArrayList;
import java.util.Comparator;
import java.util.List;
import java.util.Random;

/** No call throws, whatever it is given and whatever is there; and what is refused changes nothing. */
public final class RoughTest {
    private static final Check CHECK = new Check("RoughTest");
    private static final int[] ROUGH = {Integer.MIN_VALUE, Integer.MIN_VALUE + 1, -1000000, -101, -2, -1, 0, 1, 2, 3, 5, 6,
        9, 10, 15, 16, 19, 20, 39, 40, 59, 60, 79, 80, 81, 99, 100, 140, 200, 201, 400, 999, 1000, 9999, 10000, 99999,
        100000, 1 << 30, Integer.MAX_VALUE - 4, Integer.MAX_VALUE - 1, Integer.MAX_VALUE};

    public static void main(String[] args) throws Exception {
        List<Method> calls = calls();
        for (int run = 0; run < 400; run++) {
            rough(calls, new Random(run));
        }
        refusalsChangeNothing(calls);
        CHECK.end();
    }

    private static List<Method> calls() {
        List<Method> calls = new ArrayList<>();
        for (Method m : PennyRates.class.getDeclaredMethods()) {
            if (Modifier.isPublic(m.getModifiers())) {
                calls.add(m);
            }
        }
        // The machine tells them in no fixed order.
        calls.sort(Comparator.comparing(Method::toString));
        return calls;
    }

    private static PennyRates filled(Random lot) {
        PennyRates x = new PennyRates();
        x.pass(1 + lot.nextInt(400));
        int most = lot.nextInt(3) == 0 ? 100 : lot.nextInt(30);
        Check.law(x, -1, 0, "good 3 4;most 4 12;term 3;small 2;gain 70;same x|b&t<50;excuse d<2&!x");
        Check.law(x, lot.nextInt(6), 0, "notice 3;miles");
        for (int k = 0; k < most; k++) {
            x.line(lot.nextInt(6), lot.nextInt(16), lot.nextInt(16), 1 + lot.nextInt(200));
            x.rate(lot.nextInt(5), lot.nextInt(6), lot.nextInt(16), lot.nextInt(16), lot.nextInt(99), 400, lot.nextInt(10));
            x.special(lot.nextInt(6), lot.nextInt(16), lot.nextInt(16), lot.nextInt(99), lot.nextInt(20), 1);
            x.truck(lot.nextInt(60), lot.nextInt(20), 1 + lot.nextInt(99), lot.nextInt(99999), lot.nextInt(9));
            x.want(lot.nextInt(16), lot.nextInt(16), lot.nextInt(20), 1 + lot.nextInt(99), lot.nextInt(1000));
            x.list(k);
        }
        for (int tape = 0; tape < 5; tape++) {
            x.tape(tape, lot.nextInt(4), lot.nextInt(81));
        }
        return x;
    }

    private static Object[] numbers(Method m, Random lot) {
        Object[] numbers = new Object[m.getParameterCount()];
        for (int k = 0; k < numbers.length; k++) {
            int n = lot.nextInt(3) == 0 ? lot.nextInt(20) : ROUGH[lot.nextInt(ROUGH.length)];
            numbers[k] = m.getParameterTypes()[k] == long.class ? (Object) (long) n : (Object) n;
        }
        return numbers;
    }

    private static long ask(PennyRates x, Method m, Object[] numbers) throws Exception {
        try {
            return ((Number) m.invoke(x, numbers)).longValue();
        } catch (InvocationTargetException e) {
            CHECK.holds(m + " threw " + e.getCause() + " for " + List.of(numbers), false);
            return 0;
        }
    }

    private static void rough(List<Method> calls, Random lot) throws Exception {
        PennyRates x = filled(lot);
        for (int k = 0; k < 512; k++) {
            Method m = calls.get(lot.nextInt(calls.size()));
            long got = ask(x, m, numbers(m, lot));
            CHECK.holds(m + " answered " + got, got >= -1000 || m.getName().matches("read|act") || got == PennyRates.NO);
        }
    }

    private static void refusalsChangeNothing(List<Method> calls) throws Exception {
        int refused = 0;
        for (int run = 0; run < 30; run++) {
            Random lot = new Random(1000 + run);
            PennyRates x = filled(lot);
            x.feed(0x6d696c65, 4);
            x.act(lot.nextInt(9), 2, 5);
            for (int k = 0; k < 300; k++) {
                Method m = calls.get(lot.nextInt(calls.size()));
                long before = Print.of(x);
                long got = ask(x, m, numbers(m, lot));
                if (m.getName().matches("act|law|read") || got >= 0 || got < -20) {
                    continue;
                }
                refused++;
                CHECK.due("all after " + m + " answered " + got, Print.of(x), before);
            }
        }
        CHECK.holds("many were refused: " + refused, refused > 1000);
    }
}
