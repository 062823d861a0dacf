/**
 * Edges of terms 1 and promises 1 to 5, a method for each sentence, which stands above it.
 * What is refused for its numbers alone is in RefusalsTest.
 */
public final class LinesEdgesTest {
    private static final Check CHECK = new Check("LinesEdgesTest");

    private static void due(String call, long got, long want) {
        CHECK.due(call, got, want);
    }

    public static void main(String[] args) {
        nothingIsThere();
        objectsAreApart();
        beyond9999();
        linesAsTheyCome();
        goneEitherWay();
        fewestMiles();
        lessWhereTheyFirstDiffer();
        fewestMilesBeside();
        ofOneOwnerOrOfAny();
        fromAStationToItself();
        lineOfTheWay();
        CHECK.end();
    }

    /** "Nothing is there; TODAY is 0." */
    private static void nothingIsThere() {
        PennyRates x = new PennyRates();
        for (int what = 0; what <= 8; what++) {
            due("count " + what, x.count(what), 0);
        }
        for (int owner = -1; owner < 6; owner++) {
            due("no law", x.holds(owner, 0, 0), -1);
            due("no line", x.miles(owner, 0, 15), -3);
            due("no takings", x.takings(owner, 0), 0);
        }
        for (int rate = 0; rate < 60; rate++) {
            due("no rate", x.of(rate, 0), -5);
            due("no rate to be taken", x.taken(rate, 0), -11);
        }
        for (int truck = 0; truck < 80; truck++) {
            due("no truck", x.due(truck), -1);
        }
        for (int want = 0; want < 20; want++) {
            due("no want", x.ships(want, 0), -1);
        }
        for (int tape = 0; tape < 6; tape++) {
            due("no row", x.shift(tape, 0, tape, 0, 0), -11);
        }
        for (int station = 0; station < 16; station++) {
            due("no suit", x.suit(station), 0);
        }
        due("no book", x.ended(), -3);
        due("no trace", x.trace(0), -1);
        due("no text", x.law(0, 0), -10);
        due("an empty list", x.listless(), 0);
        due("no twos", x.unlikes(0), 0);
        due("none lesser", x.unlikes(1), -1);
        due("today", x.rate(0, 0, 0, 1, 5, 0, 0) == 0 ? x.of(0, 7) : -99, 0);
    }

    /** "Nothing is there": neither is what another object has. */
    private static void objectsAreApart() {
        PennyRates x = new PennyRates();
        PennyRates y = new PennyRates();
        x.pass(9);
        x.line(0, 0, 1, 5);
        Check.law(x, -1, 0, "term 7");
        x.feed('x', 1);
        x.rate(0, 0, 0, 1, 5, 9, 0);
        x.truck(0, 0, 1, 1, 9);
        x.want(0, 1, 0, 1, 99);
        x.list(0);
        x.tape(0, 2, 5);
        x.book(0, 0, 1);
        x.act(0, 0, 1);
        due("all of another one", Print.of(y), Print.of(new PennyRates()));
        due("one made behind it", Print.of(new PennyRates()), Print.of(y));
    }

    /** "n DAYS go by (1 .. 400): TODAY. BAD: also beyond 9999." */
    private static void beyond9999() {
        PennyRates x = new PennyRates();
        for (int k = 1; k <= 23; k++) {
            due("400 days", x.pass(400), 400 * k);
        }
        due("to 9599", x.pass(399), 9599);
        PennyRates y = new PennyRates();
        for (int k = 0; k < 24; k++) {
            y.pass(400);
        }
        due("400 from 9599 on are just 9999", x.pass(400), 9999);
        due("400 from 9600 on are one beyond", y.pass(400), -2);
        due("today stays", y.count(0), 9600);
        due("399 are just 9999", y.pass(399), 9999);
        for (int n : new int[] {1, 2, 400}) {
            due("none behind 9999", y.pass(n), -2);
        }
        due("it is the last", y.count(0), 9999);
        due("a rate of the last day", y.rate(0, 0, 0, 1, 5, 9999, 0), 0);
        due("a truck of the last day", y.truck(0, 0, 1, 5, 9999), 0);
    }

    /** "LINES 0 .. 39, as they come" */
    private static void linesAsTheyCome() {
        PennyRates x = new PennyRates();
        for (int k = 0; k < 39; k++) {
            due("line " + k, x.line(0, 0, 1, 200 - k), k);
        }
        due("of 39 the shortest", x.miles(0, 0, 1), 162);
        due("the fortieth", x.line(5, 14, 15, 1), 39);
        due("it counts", x.way(14, 15, 0), 39);
        due("its owner's", x.miles(5, 15, 14), 1);
        due("no other comes", x.line(0, 0, 1, 1), -4);
        due("it is not there", x.miles(0, 0, 1), 162);
        due("forty", x.count(1), 40);
    }

    /** "of MILES (1 .. 200); gone either way" */
    private static void goneEitherWay() {
        PennyRates x = new PennyRates();
        x.line(1, 15, 0, 1);
        x.line(1, 0, 7, 200);
        due("there", x.miles(1, 15, 0), 1);
        due("back", x.miles(1, 0, 15), 1);
        due("over both", x.miles(-1, 15, 7), 201);
        due("over both back", x.miles(-1, 7, 15), 201);
        due("first there", x.way(15, 7, 0), 0);
        due("first back", x.way(7, 15, 0), 1);
    }

    /** "A WAY between two STATIONS ..: that of the fewest MILES" */
    private static void fewestMiles() {
        PennyRates x = new PennyRates();
        for (int s = 0; s < 15; s++) {
            x.line(s % 6, s, s + 1, 1);
        }
        x.line(0, 0, 15, 16);
        due("fifteen lines are one mile less than one line", x.miles(-1, 0, 15), 15);
        due("the last of fifteen", x.way(0, 15, 14), 14);
        x.line(0, 0, 15, 15);
        due("as many miles: 1 is less than 15", x.way(0, 15, 0), 0);
        due("from the other end 0 is less than 14", x.way(15, 0, 0), 16);
        x.line(0, 15, 0, 14);
        due("one line is one mile less than fifteen", x.way(0, 15, 0), 17);
        due("it is all", x.way(0, 15, 1), -1);
        due("its miles", x.miles(-1, 15, 0), 14);
    }

    /** "of several that whose STATIONS, from its first on, are less where they first differ" */
    private static void lessWhereTheyFirstDiffer() {
        PennyRates x = new PennyRates();
        x.line(0, 0, 1, 5);
        x.line(1, 1, 9, 10);
        x.line(2, 1, 2, 5);
        x.line(3, 2, 9, 5);
        due("0-1-2-9 rather than 0-1-9, though it is of more lines", x.way(0, 9, 1), 2);
        due("its last", x.way(0, 9, 2), 3);
        due("9-1-0 rather than 9-2-1-0", x.way(9, 0, 0), 1);
        due("its last back", x.way(9, 0, 1), 0);
        PennyRates y = new PennyRates();
        y.line(0, 8, 3, 1);
        y.line(0, 3, 7, 1);
        y.line(0, 7, 9, 1);
        y.line(0, 8, 4, 1);
        y.line(0, 4, 1, 1);
        y.line(0, 1, 9, 1);
        due("8-3-7-9: the first difference counts, not a later one", y.way(8, 9, 0), 0);
        due("its last", y.way(8, 9, 2), 2);
        due("9-1-4-8 back", y.way(9, 8, 0), 5);
        y.line(0, 3, 1, 1);
        due("8-3-1-9: where they next differ", y.way(8, 9, 1), 6);
    }

    /** "from a STATION to one beside it the LINE with the fewest MILES, of several the least" */
    private static void fewestMilesBeside() {
        PennyRates x = new PennyRates();
        x.line(0, 3, 4, 10);
        due("the only one", x.way(3, 4, 0), 0);
        x.line(1, 3, 4, 10);
        due("of like ones the least", x.way(3, 4, 0), 0);
        x.line(2, 4, 3, 9);
        due("a later one with one mile less", x.way(3, 4, 0), 2);
        due("and back", x.way(4, 3, 0), 2);
        x.line(3, 4, 3, 9);
        due("of these the least", x.way(3, 4, 0), 2);
        x.rate(1, 0, 3, 4, 7, 0, 0);
        due("its owner has it all", x.part(0, 0, 2), 7);
        due("not a like line's", x.part(0, 0, 3), 0);
    }

    /** "(by LINES of one OWNER, or of any)" and "MILES of the WAY by LINES of an OWNER (-1: any)" */
    private static void ofOneOwnerOrOfAny() {
        PennyRates x = new PennyRates();
        for (int owner = 0; owner < 6; owner++) {
            x.line(owner, 2 * owner, 2 * owner + 1, 10 + owner);
            x.line(owner, 14, 15, 100 - owner);
        }
        for (int owner = 0; owner < 6; owner++) {
            for (int other = 0; other < 6; other++) {
                int want = owner == other ? 10 + owner : -3;
                due(owner + " by lines of " + other, x.miles(other, 2 * owner, 2 * owner + 1), want);
            }
            due("by any", x.miles(-1, 2 * owner, 2 * owner + 1), 10 + owner);
            due("where all have one", x.miles(owner, 15, 14), 100 - owner);
        }
        due("where all have one, by any", x.miles(-1, 15, 14), 95);
        due("STATE: there is none", x.miles(-1, 0, 2), -3);
    }

    /** "(0 from a STATION to itself.)" */
    private static void fromAStationToItself() {
        PennyRates x = new PennyRates();
        for (int s = 0; s < 16; s++) {
            for (int owner = -1; owner < 6; owner++) {
                due("without lines", x.miles(owner, s, s), 0);
            }
        }
        x.line(0, 0, 1, 1);
        due("with a line there and back", x.miles(0, 0, 0), 0);
        due("without a line on the way", x.way(0, 0, 0), -1);
        due("NONE all the same: owner", x.miles(6, 3, 3), -1);
        due("NONE all the same: stations", x.miles(0, 16, 16), -1);
    }

    /** Lines from both stations, but to other ones: no line of theirs is on a way between the two. */
    private static void withoutAWay() {
        PennyRates x = new PennyRates();
        for (int s = 0; s < 7; s++) {
            x.line(0, s, s + 1, 1);
            x.line(0, s + 8, s + 9, 1);
        }
        x.line(0, 7, 0, 1);
        x.line(0, 15, 8, 1);
        for (int a = 0; a < 8; a++) {
            for (int b = 8; b < 16; b++) {
                for (int i = 0; i < 3; i++) {
                    due("line " + i + " from " + a + " to " + b, x.way(a, b, i), -1);
                    due("line " + i + " from " + b + " to " + a, x.way(b, a, i), -1);
                }
                due("miles", x.miles(-1, a, b), -3);
                due("miles back", x.miles(0, b, a), -3);
            }
        }
        x.rate(1, 0, 1, 9, 50, 0, 0);
        x.rate(4, 0, 9, 1, 50, 0, 0);
        due("no parts of a through", x.part(0, 0, 0), -3);
        due("no parts of a boat", x.part(1, 0, 0), -3);
    }

    /** "The i-th LINE of the WAY by any LINES. NONE." */
    private static void lineOfTheWay() {
        PennyRates x = new PennyRates();
        for (int s = 0; s < 15; s++) {
            x.line(s % 6, s, s + 1, 200);
        }
        for (int i = 0; i < 15; i++) {
            due("line " + i + " of fifteen", x.way(0, 15, i), i);
            due("line " + i + " of fifteen back", x.way(15, 0, i), 14 - i);
        }
        for (int i : new int[] {-1, 15, 16, Integer.MAX_VALUE, Integer.MIN_VALUE}) {
            due("no line " + i, x.way(0, 15, i), -1);
            due("no line " + i + " back", x.way(15, 0, i), -1);
        }
        due("the longest way", x.miles(-1, 0, 15), 3000);
        withoutAWay();
    }
}
