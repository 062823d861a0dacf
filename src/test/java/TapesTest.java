/** Promises 39 to 42: tape, item, read, shift. */
public final class TapesTest {
    private static final Check CHECK = new Check("TapesTest");

    private static void due(String call, long got, long want) {
        CHECK.due(call, got, want);
    }

    public static void main(String[] args) {
        tape();
        item();
        read();
        shiftRefusals();
        shift();
        CHECK.end();
    }

    private static void tape() {
        PennyRates x = new PennyRates();
        due("tape -1", x.tape(-1, 0, 1), -1);
        due("tape 6", x.tape(6, 0, 1), -1);
        due("NONE ahead of BAD", x.tape(6, 9, -1), -1);
        due("sort -2", x.tape(0, -2, 1), -2);
        due("sort 4", x.tape(0, 4, 1), -2);
        due("BAD ahead of SIZE", x.tape(0, 4, -1), -2);
        due("n 81", x.tape(0, 0, 81), -2);
        due("n -1", x.tape(0, 0, -1), -14);
        due("n least", x.tape(0, 3, Integer.MIN_VALUE), -14);
        due("nothing there still", x.item(0, 0, 1), -11);
        due("n 80", x.tape(5, 3, 80), 1);
        due("its last", x.item(5, 79, 7), 1);
        due("made anew", x.tape(5, 3, 80), 1);
        due("all 0", x.read(5, 79), 0);
        x.item(5, 3, 4);
        due("refused", x.tape(5, 3, -1), -14);
        due("it stays", x.read(5, 3), 4);
        due("shorter", x.tape(5, 2, 3), 1);
        due("no place 3", x.read(5, 3), PennyRates.NO);
        due("longer", x.tape(5, 2, 5), 1);
        due("place 3 is 0", x.read(5, 3), 0);
        due("nothing, n does not matter", x.tape(5, -1, -7), 1);
        due("nothing there", x.read(5, 0), PennyRates.NO);
        due("nothing, n 81", x.tape(4, -1, 81), 1);
        due("n 0", x.tape(4, 0, 0), 1);
        due("a row without places", x.item(4, 0, 1), -13);
    }

    private static void item() {
        PennyRates x = new PennyRates();
        due("tape -1", x.item(-1, 0, 0), -1);
        due("tape 6", x.item(6, 0, 0), -1);
        due("nothing", x.item(0, 0, 0), -11);
        due("NOTHING ahead of PLACE", x.item(0, -1, 0), -11);
        for (int sort = 0; sort < 4; sort++) {
            x.tape(sort, sort, 3);
            due("-1", x.item(sort, -1, 0), -13);
            due("3", x.item(sort, 3, 0), -13);
            due("greatest", x.item(sort, Integer.MAX_VALUE, 0), -13);
            due("0", x.item(sort, 0, 0x123456789abcdef0L), 1);
            due("2", x.item(sort, 2, -1), 1);
            due("1", x.item(sort, 1, 0x7fL), 1);
            due("-1 stays", x.read(sort, 2), -1);
            due("127 stays", x.read(sort, 1), 127);
        }
        due("byte", x.read(0, 0), (byte) 0xf0);
        due("short", x.read(1, 0), (short) 0xdef0);
        due("int", x.read(2, 0), 0x9abcdef0);
        due("long", x.read(3, 0), 0x123456789abcdef0L);
        x.item(0, 0, 128);
        due("byte 128", x.read(0, 0), -128);
        x.item(1, 0, 32768);
        due("short 32768", x.read(1, 0), -32768);
        x.item(2, 0, 2147483648L);
        due("int 2147483648", x.read(2, 0), Integer.MIN_VALUE);
        x.item(3, 0, Long.MIN_VALUE);
        due("the least long", x.read(3, 0), Long.MIN_VALUE);
    }

    private static void read() {
        PennyRates x = new PennyRates();
        due("tape -1", x.read(-1, 0), PennyRates.NO);
        due("tape 6", x.read(6, 0), PennyRates.NO);
        due("nothing", x.read(0, 0), PennyRates.NO);
        x.tape(0, 1, 2);
        due("-1", x.read(0, -1), PennyRates.NO);
        due("2", x.read(0, 2), PennyRates.NO);
        due("greatest", x.read(0, Integer.MAX_VALUE), PennyRates.NO);
        due("1", x.read(0, 1), 0);
    }

    private static void shiftRefusals() {
        PennyRates x = new PennyRates();
        x.tape(0, 2, 10);
        x.tape(1, 2, 5);
        x.tape(2, 3, 10);
        due("tape -1", x.shift(-1, 0, 0, 0, 1), -1);
        due("other 6", x.shift(0, 0, 6, 0, 1), -1);
        due("NONE ahead of NOTHING", x.shift(3, 0, 6, 0, 1), -1);
        due("nothing there", x.shift(3, 0, 0, 0, 1), -11);
        due("nothing on the other", x.shift(0, 0, 3, 0, 1), -11);
        due("NOTHING ahead of PLACE", x.shift(0, -1, 3, 0, 1), -11);
        due("unlike sorts", x.shift(0, 0, 2, 0, 1), -12);
        due("CAST ahead of PLACE", x.shift(0, 0, 2, 0, -1), -12);
        due("n -1", x.shift(0, 0, 1, 0, -1), -13);
        due("i -1", x.shift(0, -1, 1, 0, 1), -13);
        due("j -1", x.shift(0, 0, 1, -1, 1), -13);
        due("beyond the one's end", x.shift(0, 6, 0, 0, 5), -13);
        due("beyond the other's end", x.shift(0, 0, 1, 1, 5), -13);
        due("i greatest", x.shift(0, Integer.MAX_VALUE, 0, 0, 1), -13);
        due("n greatest", x.shift(0, 1, 0, 1, Integer.MAX_VALUE), -13);
        due("n 0 at the ends", x.shift(0, 10, 1, 5, 0), 0);
        due("n 0 beyond", x.shift(0, 11, 1, 5, 0), -13);
    }

    private static PennyRates filled() {
        PennyRates x = new PennyRates();
        x.tape(0, 2, 8);
        x.tape(1, 2, 5);
        for (int k = 0; k < 8; k++) {
            x.item(0, k, 10 + k);
        }
        return x;
    }

    private static void row(String what, PennyRates x, int tape, int... want) {
        for (int k = 0; k < want.length; k++) {
            due(what + " at " + k, x.read(tape, k), want[k]);
        }
    }

    private static void shift() {
        PennyRates x = filled();
        due("to another one", x.shift(0, 2, 1, 1, 4), 4);
        row("another one", x, 1, 0, 12, 13, 14, 15);
        row("the one", x, 0, 10, 11, 12, 13, 14, 15, 16, 17);
        due("ahead on itself", x.shift(0, 0, 0, 2, 6), 6);
        row("as they all were", x, 0, 10, 11, 10, 11, 12, 13, 14, 15);
        PennyRates y = filled();
        due("back on itself", y.shift(0, 3, 0, 1, 5), 5);
        row("as they all were, back", y, 0, 10, 13, 14, 15, 16, 17, 16, 17);
        PennyRates z = filled();
        due("all to the same place", z.shift(0, 0, 0, 0, 8), 8);
        row("unchanged", z, 0, 10, 11, 12, 13, 14, 15, 16, 17);
        due("refused", z.shift(0, 4, 0, 0, 5), -13);
        row("unchanged when refused", z, 0, 10, 11, 12, 13, 14, 15, 16, 17);
    }
}
