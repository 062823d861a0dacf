/** Promises 1 to 5: a new object, pass, line, miles, way. */
public final class LinesTest {
    private static final Check CHECK = new Check("LinesTest");

    private static void due(String call, long got, long want) {
        CHECK.due(call, got, want);
    }

    public static void main(String[] args) {
        newObject();
        pass();
        line();
        miles();
        way();
        CHECK.end();
    }

    private static void newObject() {
        PennyRates x = new PennyRates();
        for (int what = 0; what <= 8; what++) {
            due("new count " + what, x.count(what), 0);
        }
        due("new ended", x.ended(), -3);
        due("new trace", x.trace(0), -1);
        due("new unlikes", x.unlikes(0), 0);
        due("new takings", x.takings(-1, 0), 0);
        due("new change", x.change(0), 0);
        for (int tape = 0; tape < 6; tape++) {
            due("new read", x.read(tape, 0), PennyRates.NO);
            due("new item", x.item(tape, 0, 1), -11);
        }
        due("NONE", PennyRates.NONE, -1);
        due("BAD", PennyRates.BAD, -2);
        due("STATE", PennyRates.STATE, -3);
        due("FULL", PennyRates.FULL, -4);
        due("NO", PennyRates.NO, Long.MIN_VALUE);
    }

    private static void pass() {
        PennyRates x = new PennyRates();
        due("pass 0", x.pass(0), -2);
        due("pass -1", x.pass(-1), -2);
        due("pass least int", x.pass(Integer.MIN_VALUE), -2);
        due("pass 401", x.pass(401), -2);
        due("pass greatest int", x.pass(Integer.MAX_VALUE), -2);
        due("today after refusals", x.count(0), 0);
        due("pass 1", x.pass(1), 1);
        for (int k = 1; k <= 24; k++) {
            due("pass 400", x.pass(400), 1 + 400 * k);
        }
        due("pass 399 beyond 9999", x.pass(399), -2);
        due("pass 398 to 9999", x.pass(398), 9999);
        due("pass 1 beyond 9999", x.pass(1), -2);
        due("today at the end", x.count(0), 9999);
    }

    private static void line() {
        PennyRates x = new PennyRates();
        due("owner -1", x.line(-1, 0, 1, 5), -1);
        due("owner 6", x.line(6, 0, 1, 5), -1);
        due("station -1", x.line(0, -1, 1, 5), -1);
        due("station 16", x.line(0, 0, 16, 5), -1);
        due("NONE ahead of BAD", x.line(6, 3, 3, 0), -1);
        due("one station", x.line(0, 3, 3, 5), -2);
        due("miles 0", x.line(0, 3, 4, 0), -2);
        due("miles 201", x.line(0, 3, 4, 201), -2);
        due("none came", x.count(1), 0);
        due("miles 1", x.line(5, 15, 0, 1), 0);
        due("miles 200", x.line(0, 3, 4, 200), 1);
        for (int k = 2; k < 40; k++) {
            due("line " + k, x.line(k % 6, k % 16, (k + 1) % 16, 7), k);
        }
        due("the 41st", x.line(0, 3, 4, 5), -4);
        due("BAD ahead of FULL", x.line(0, 3, 3, 5), -2);
        due("NONE ahead of FULL", x.line(0, 3, 17, 5), -1);
        due("forty", x.count(1), 40);
    }

    private static void miles() {
        PennyRates x = new PennyRates();
        due("owner -2", x.miles(-2, 0, 1), -1);
        due("owner 6", x.miles(6, 0, 1), -1);
        due("station -1", x.miles(0, -1, 1), -1);
        due("station 16", x.miles(0, 0, 16), -1);
        due("no line", x.miles(-1, 0, 1), -3);
        due("to itself", x.miles(4, 7, 7), 0);
        x.line(0, 0, 1, 10);
        x.line(1, 1, 2, 20);
        x.line(0, 2, 0, 50);
        due("any", x.miles(-1, 0, 2), 30);
        due("either way", x.miles(-1, 2, 0), 30);
        due("of owner 0", x.miles(0, 0, 2), 50);
        due("of owner 0 by two", x.miles(0, 1, 2), 60);
        due("of owner 1", x.miles(1, 0, 2), -3);
        x.line(1, 2, 0, 3);
        due("a later line shortens", x.miles(-1, 1, 2), 13);
        due("the owner's own", x.miles(1, 0, 1), 23);
        due("others stay", x.miles(0, 1, 2), 60);
        // A line that joins two parts shortens between all of them.
        PennyRates y = new PennyRates();
        for (int s = 0; s < 15; s++) {
            if (s != 7) {
                y.line(2, s, s + 1, 200);
            }
        }
        due("two parts", y.miles(2, 0, 15), -3);
        y.line(2, 8, 7, 200);
        due("one part", y.miles(2, 0, 15), 3000);
        due("one part back", y.miles(-1, 15, 0), 3000);
    }

    private static void way() {
        PennyRates x = new PennyRates();
        due("station -1", x.way(-1, 0, 0), -1);
        due("station 16", x.way(0, 16, 0), -1);
        due("no way", x.way(0, 1, 0), -1);
        due("to itself", x.way(1, 1, 0), -1);
        x.line(0, 0, 5, 10);
        x.line(1, 5, 9, 10);
        PennyRates z = new PennyRates();
        z.line(0, 0, 1, 10);
        z.line(0, 1, 0, 11);
        z.line(1, 0, 1, 10);
        due("line 0 has the fewest miles", z.way(1, 0, 0), 0);
        due("its miles", z.miles(-1, 1, 0), 10);
        x.line(2, 0, 3, 5);
        x.line(3, 3, 9, 15);
        // Both have 20 miles: by 3 the stations are less than by 5.
        due("less stations", x.way(0, 9, 0), 2);
        due("less stations, then", x.way(0, 9, 1), 3);
        due("its end", x.way(0, 9, 2), -1);
        due("i -1", x.way(0, 9, -1), -1);
        due("i greatest", x.way(0, 9, Integer.MAX_VALUE), -1);
        due("from the other end", x.way(9, 0, 0), 3);
        x.line(4, 0, 3, 5);
        due("of like lines the least", x.way(0, 9, 0), 2);
        x.line(5, 3, 0, 4);
        due("the line with fewest miles", x.way(0, 9, 0), 5);
        x.line(5, 0, 9, 19);
        due("a straight one of as many miles: 3 is less than 9", x.way(0, 9, 0), 5);
        x.line(5, 9, 0, 18);
        due("a straight one of fewer", x.way(0, 9, 0), 7);
        due("it is all", x.way(0, 9, 1), -1);
        PennyRates y = new PennyRates();
        y.line(0, 0, 1, 10);
        y.line(0, 0, 2, 5);
        y.line(0, 2, 1, 5);
        // 0-1 and 0-2-1 have like miles: the stations first differ behind 0, and 1 is less.
        due("straight: 1 is less than 2", y.way(0, 1, 0), 0);
        due("straight back: 0 is less than 2", y.way(1, 0, 0), 0);
        y.line(0, 1, 4, 1);
        y.line(0, 3, 2, 1);
        due("3 to 4", y.way(3, 4, 0), 4);
        due("3 to 4, by 0? no", y.way(3, 4, 1), 2);
        due("3 to 4, last", y.way(3, 4, 2), 3);
    }
}
