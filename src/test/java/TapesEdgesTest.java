/**
 * Edges of term 8 and promises 39 to 42, a method for each sentence, which stands above it.
 * What is refused for its numbers alone is in RefusalsTest.
 */
public final class TapesEdgesTest {
    private static final Check CHECK = new Check("TapesEdgesTest");
    private static final long NO = PennyRates.NO;

    private static void due(String call, long got, long want) {
        CHECK.due(call, got, want);
    }

    public static void main(String[] args) {
        holdNothingAtFirst();
        rowOfEighty();
        allZero();
        nothingAgain();
        badAheadOfSize();
        lowestBits();
        itemPlaces();
        rowsAreApart();
        shiftAllThatWere();
        shiftPlaces();
        shiftSorts();
        shiftNone();
        CHECK.end();
    }

    /** "TAPES 0 .. 5 hold nothing (at first)" and "NOTHING (-11): nothing is there" */
    private static void holdNothingAtFirst() {
        PennyRates x = new PennyRates();
        for (int tape = 0; tape < 6; tape++) {
            due("item", x.item(tape, 0, 1), -11);
            due("item at no place", x.item(tape, -1, 1), -11);
            due("read", x.read(tape, 0), NO);
            due("shift on itself", x.shift(tape, 0, tape, 0, 0), -11);
            due("shift of no place", x.shift(tape, -1, tape, -1, -1), -11);
            due("a book", x.book(tape, 0, 1), 0);
        }
        for (int tape : new int[] {-1, 6}) {
            due("tape", x.tape(tape, 0, 1), -1);
            due("no item", x.item(tape, 0, 1), -1);
            due("no read", x.read(tape, 0), NO);
            due("no shift", x.shift(tape, 0, 0, 0, 0), -1);
            due("no shift to it", x.shift(0, 0, tape, 0, 0), -1);
            due("no book", x.book(tape, 0, 1), -1);
        }
    }

    /** "A TAPE becomes a row of n (0 .. 80) of a sort" */
    private static void rowOfEighty() {
        for (int sort = 0; sort < 4; sort++) {
            PennyRates x = new PennyRates();
            for (int n : new int[] {0, 1, 2, 79, 80}) {
                due("n " + n, x.tape(5, sort, n), 1);
                for (int i : new int[] {-1, 0, 1, 2, 78, 79, 80, Integer.MIN_VALUE, Integer.MAX_VALUE}) {
                    boolean isPlace = i >= 0 && i < n;
                    due("item " + i + " of " + n, x.item(5, i, 7), isPlace ? 1 : -13);
                    due("read " + i + " of " + n, x.read(5, i), isPlace ? 7 : NO);
                }
                due("all of it", x.shift(5, 0, 5, 0, n), n);
                due("one more", x.shift(5, 0, 5, 0, n + 1), -13);
            }
            due("81", x.tape(5, sort, 81), -2);
            due("it stays", x.read(5, 79), 7);
        }
    }

    /** "all 0" */
    private static void allZero() {
        PennyRates x = new PennyRates();
        for (int sort = 0; sort < 4; sort++) {
            x.tape(0, sort, 80);
            for (int i = 0; i < 80; i++) {
                due("0 at first", x.read(0, i), 0);
                x.item(0, i, -1);
            }
            due("made anew", x.tape(0, sort, 80), 1);
            for (int i = 0; i < 80; i++) {
                due("0 again", x.read(0, i), 0);
                x.item(0, i, 3);
            }
        }
        x.tape(0, 3, 80);
        x.item(0, 70, 9);
        x.tape(0, 3, 10);
        x.tape(0, 3, 80);
        due("shorter and longer again", x.read(0, 70), 0);
    }

    /** "or holds nothing (sort -1: n does not matter)" */
    private static void nothingAgain() {
        PennyRates x = new PennyRates();
        for (int n : new int[] {0, 1, 80, 81, -1, Integer.MIN_VALUE, Integer.MAX_VALUE}) {
            x.tape(3, 2, 5);
            x.item(3, 0, 8);
            due("n " + n, x.tape(3, -1, n), 1);
            due("nothing", x.item(3, 0, 1), -11);
            due("nothing to read", x.read(3, 0), NO);
            due("nothing to shift", x.shift(3, 0, 3, 0, 0), -11);
            due("nothing again", x.tape(3, -1, n), 1);
        }
        x.tape(3, 2, 5);
        due("what was there is gone", x.read(3, 0), 0);
    }

    /** "NONE: tape; BAD: sort, n above 80; SIZE." */
    private static void badAheadOfSize() {
        PennyRates x = new PennyRates();
        x.tape(0, 2, 3);
        x.item(0, 1, 44);
        for (int sort : new int[] {-2, 4, 5, Integer.MIN_VALUE, Integer.MAX_VALUE}) {
            for (int n : new int[] {-1, 0, 80, 81}) {
                due("sort " + sort + ", n " + n, x.tape(0, sort, n), -2);
            }
        }
        for (int sort = 0; sort < 4; sort++) {
            due("n 81", x.tape(0, sort, 81), -2);
            due("n greatest", x.tape(0, sort, Integer.MAX_VALUE), -2);
            due("n -1", x.tape(0, sort, -1), -14);
            due("n least", x.tape(0, sort, Integer.MIN_VALUE), -14);
            due("NONE ahead of SIZE", x.tape(6, sort, -1), -1);
            due("NONE ahead of BAD", x.tape(-1, sort, 81), -1);
        }
        due("NONE for nothing too", x.tape(6, -1, 0), -1);
        due("it stays", x.read(0, 1), 44);
        due("and its size", x.read(0, 3), NO);
    }

    /** "Item i of a TAPE becomes v (its lowest bits, as many as an item has)" */
    private static void lowestBits() {
        PennyRates x = new PennyRates();
        for (int sort = 0; sort < 4; sort++) {
            x.tape(sort, sort, 2);
        }
        long[] vs = {0, 1, -1, 127, 128, 129, 255, 256, -128, -129, -256, -257, 32767, 32768, 65535, 65536, -32768, -32769,
            2147483647L, 2147483648L, 4294967295L, 4294967296L, -2147483648L, -2147483649L, Long.MAX_VALUE, Long.MIN_VALUE,
            Long.MIN_VALUE + 1, 0x123456789abcdef0L, 0x80L << 32, 0x8000L << 16};
        for (long v : vs) {
            for (int sort = 0; sort < 4; sort++) {
                due("item", x.item(sort, 1, v), 1);
            }
            due("byte of " + v, x.read(0, 1), (byte) v);
            due("short of " + v, x.read(1, 1), (short) v);
            due("int of " + v, x.read(2, 1), (int) v);
            due("long of " + v, x.read(3, 1), v);
            for (int sort = 0; sort < 4; sort++) {
                due("none beside it", x.read(sort, 0), 0);
            }
        }
    }

    /** "PLACE (-13): no such place": "NONE; NOTHING; PLACE." */
    private static void itemPlaces() {
        PennyRates x = new PennyRates();
        x.tape(2, 1, 3);
        for (int i : new int[] {-1, 3, 4, 80, Integer.MIN_VALUE, Integer.MAX_VALUE}) {
            due("no place " + i, x.item(2, i, 5), -13);
            due("no place to read " + i, x.read(2, i), NO);
            due("NOTHING ahead of PLACE", x.item(3, i, 5), -11);
            due("NONE ahead of PLACE", x.item(6, i, 5), -1);
        }
        for (int i = 0; i < 3; i++) {
            due("nothing was changed", x.read(2, i), 0);
        }
    }

    /** "TAPES 0 .. 5 hold .. a row": each its own. */
    private static void rowsAreApart() {
        PennyRates x = new PennyRates();
        for (int tape = 0; tape < 6; tape++) {
            x.tape(tape, 3, 80);
            for (int i = 0; i < 80; i++) {
                x.item(tape, i, 1000L * tape + i);
            }
        }
        x.tape(2, -1, 0);
        x.tape(4, 3, 80);
        for (int tape : new int[] {0, 1, 3, 5}) {
            for (int i = 0; i < 80; i++) {
                due("tape " + tape + " place " + i, x.read(tape, i), 1000L * tape + i);
            }
        }
    }

    /** "n items of a TAPE from i on come to another one (or the same) from j on, as they all were before: n." */
    private static void shiftAllThatWere() {
        int size = 6;
        for (int i = 0; i <= size; i++) {
            for (int j = 0; j <= size; j++) {
                for (int n = 0; n <= size; n++) {
                    shiftOnce(size, i, j, n, true);
                    shiftOnce(size, i, j, n, false);
                }
            }
        }
        PennyRates x = new PennyRates();
        x.tape(0, 3, 80);
        for (int i = 0; i < 80; i++) {
            x.item(0, i, i);
        }
        due("all but one, ahead", x.shift(0, 0, 0, 1, 79), 79);
        for (int i = 0; i < 80; i++) {
            due("ahead " + i, x.read(0, i), Math.max(0, i - 1));
        }
        due("all but one, back", x.shift(0, 1, 0, 0, 79), 79);
        for (int i = 0; i < 80; i++) {
            due("back " + i, x.read(0, i), Math.min(78, i));
        }
    }

    private static void shiftOnce(int size, int i, int j, int n, boolean itself) {
        PennyRates x = new PennyRates();
        x.tape(0, 2, size);
        x.tape(1, 2, size);
        long[] rows = new long[size];
        long[] others = new long[size];
        for (int k = 0; k < size; k++) {
            rows[k] = 10 + k;
            others[k] = 20 + k;
            x.item(0, k, rows[k]);
            x.item(1, k, others[k]);
        }
        boolean fits = i + n <= size && j + n <= size;
        String told = "shift of " + n + " from " + i + " to " + j;
        due(told, x.shift(0, i, itself ? 0 : 1, j, n), fits ? n : -13);
        if (fits) {
            System.arraycopy(rows.clone(), i, itself ? rows : others, j, n);
        }
        for (int k = 0; k < size; k++) {
            due(told + " at " + k, x.read(0, k), rows[k]);
            due(told + " at " + k + " of the other", x.read(1, k), others[k]);
        }
    }

    /** "PLACE: n, i or j is below 0, or beyond either's end." */
    private static void shiftPlaces() {
        PennyRates x = new PennyRates();
        x.tape(0, 0, 4);
        x.tape(1, 0, 6);
        x.item(0, 3, 5);
        int least = Integer.MIN_VALUE;
        int greatest = Integer.MAX_VALUE;
        int[][] bad = {{0, 0, -1}, {-1, 0, 0}, {0, -1, 0}, {-1, 0, 1}, {0, -1, 1}, {5, 0, 0}, {0, 7, 0}, {4, 0, 1}, {0, 6, 1},
            {0, 0, 5}, {1, 0, 4}, {0, 3, 4}, {greatest, 0, 0}, {0, greatest, 0}, {0, 0, greatest}, {1, 0, greatest},
            {greatest, 0, 1}, {greatest, 0, greatest}, {greatest, greatest, greatest}, {least, 0, 0}, {0, least, 0},
            {0, 0, least}, {1, 1, greatest}, {least, least, least}, {-1, -1, 2}, {4, 6, -1}};
        for (int[] b : bad) {
            due("i " + b[0] + ", j " + b[1] + ", n " + b[2], x.shift(0, b[0], 1, b[1], b[2]), -13);
        }
        for (int i = 0; i < 6; i++) {
            due("nothing came", x.read(1, i), 0);
        }
        due("just to both ends", x.shift(0, 0, 1, 2, 4), 4);
        due("the last", x.read(1, 5), 5);
        due("the longer one's end is too far for the shorter", x.shift(1, 2, 0, 1, 4), -13);
    }

    /** "NONE: tapes; NOTHING; CAST: of unlike sorts" */
    private static void shiftSorts() {
        PennyRates x = new PennyRates();
        for (int sort = 0; sort < 4; sort++) {
            x.tape(sort, sort, 3);
            x.item(sort, 1, 60 + sort);
        }
        for (int a = 0; a < 4; a++) {
            for (int b = 0; b < 4; b++) {
                due(a + " to " + b, x.shift(a, 1, b, 1, 1), a == b ? 1 : -12);
                due(a + " to " + b + " of none", x.shift(a, 1, b, 1, 0), a == b ? 0 : -12);
                due(a + " to " + b + " at no place", x.shift(a, 9, b, 1, 1), a == b ? -13 : -12);
            }
            due("nothing ahead of CAST", x.shift(a, 0, 4, 0, 1), -11);
            due("nothing ahead of CAST, the other way", x.shift(4, 0, a, 0, 1), -11);
            due("NONE ahead of all", x.shift(a, -1, 6, -1, -1), -1);
            due("NONE ahead of NOTHING", x.shift(4, -1, 6, -1, -1), -1);
            due("NONE ahead of NOTHING, the other way", x.shift(-1, -1, 4, -1, -1), -1);
        }
        for (int sort = 0; sort < 4; sort++) {
            due("as it was", x.read(sort, 1), 60 + sort);
        }
    }

    /** A shift of no items, and rows without places. */
    private static void shiftNone() {
        PennyRates x = new PennyRates();
        x.tape(0, 2, 0);
        x.tape(1, 2, 3);
        due("none of none", x.shift(0, 0, 0, 0, 0), 0);
        due("none to the end", x.shift(0, 0, 1, 3, 0), 0);
        due("none from the end", x.shift(1, 3, 0, 0, 0), 0);
        due("none from beyond the end", x.shift(1, 4, 0, 0, 0), -13);
        due("none to beyond the end", x.shift(1, 3, 0, 1, 0), -13);
        due("one of none", x.shift(0, 0, 1, 0, 1), -13);
    }
}
