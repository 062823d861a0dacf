/**
 * Edges of terms 4 and promises 18 to 26, a method for each sentence, which stands above it.
 * What is refused for its numbers alone is in RefusalsTest.
 */
public final class TrucksEdgesTest {
    private static final Check CHECK = new Check("TrucksEdgesTest");

    private static void due(String call, long got, long want) {
        CHECK.due(call, got, want);
    }

    public static void main(String[] args) {
        trucksAsTheyCome();
        dueIfItServes();
        bookRows();
        bookTorn();
        bookMayNotBeOne();
        bookOfSeveralTheLeast();
        bookOfInts();
        endedLatest();
        sameStationsAndGoods();
        sameOnTheLaterDay();
        firstByNumber();
        testsOfTrucks();
        boatOrWas();
        paidOtherwise();
        excused();
        firstOfTheTwos();
        suitBack();
        suitDueLess();
        suitGain();
        suitLargest();
        cheapEight();
        cheapOfSeveral();
        cheapNoRate();
        cryFarther();
        CHECK.end();
    }

    /** "TRUCKS 0 .. 79, as they come: a RATE, a GOOD, TONS (1 .. 99), PAID (pence, 0 .. 99999), a DAY (TODAY at most)." */
    private static void trucksAsTheyCome() {
        PennyRates x = new PennyRates();
        x.rate(0, 0, 0, 1, 5, 0, 0);
        due("today is 0: no day 1", x.truck(0, 0, 1, 0, 1), -2);
        due("day 0", x.truck(0, 0, 1, 0, 0), 0);
        x.pass(1);
        due("day 1 by now", x.truck(0, 0, 99, 99999, 1), 1);
        due("no day 2", x.truck(0, 0, 1, 0, 2), -2);
        for (int k = 2; k < 79; k++) {
            due("truck " + k, x.truck(0, k % 20, 1 + k, k, k % 2), k);
        }
        due("the eightieth", x.truck(0, 0, 99, 99999, 1), 79);
        due("it is due", x.due(79), 495);
        due("no other", x.truck(0, 0, 1, 0, 0), -4);
        due("eighty", x.count(4), 80);
        due("no truck 80", x.due(80), -1);
    }

    /** "DUE of a TRUCK: CHARGE by its RATE on its DAY, if that SERVES it; else none." */
    private static void dueIfItServes() {
        PennyRates x = new PennyRates();
        x.rate(0, 0, 0, 1, 5, 3, 0);
        x.special(0, 0, 1, 4, 10, 7);
        x.rate(3, 0, 0, 1, 10, 0, 0);
        x.pass(10);
        x.truck(0, 0, 2, 0, 2);
        x.truck(0, 0, 2, 0, 3);
        x.truck(0, 0, 2, 0, 10);
        x.truck(0, 1, 2, 0, 3);
        x.truck(1, 10, 6, 0, 5);
        x.truck(1, 10, 7, 0, 5);
        x.truck(1, 0, 7, 0, 5);
        x.truck(2, 0, 7, 0, 5);
        int[] want = {-3, 10, 10, -3, -3, 28, -3, -3};
        for (int t = 0; t < want.length; t++) {
            due("truck " + t, x.due(t), want[t]);
        }
        x.line(0, 0, 1, 30);
        due("a toll with a way by now", x.due(7), 210);
        x.withdraw(0);
        due("withdrawn today: not due today", x.due(2), -3);
        due("due a day ahead", x.due(1), 10);
        Check.law(x, 0, 3, "good 1 0;small 3;term 1");
        due("by the law of its day", x.due(1), 18);
        due("of its class by the law of its day", x.due(3), 18);
        due("a special's tons are not made more", x.due(4), -3);
        x.rate(0, 1, 0, 1, 0, 10, 0);
        x.truck(3, 0, 99, 5, 10);
        due("a due of nothing is one", x.due(8), 0);
    }

    private static void row(PennyRates x, int tape, int at, int... numbers) {
        for (int k = 0; k < numbers.length; k++) {
            x.item(tape, at + k, numbers[k]);
        }
    }

    /** One rate, today is 3, and a tape 0 of 80 ints with sixteen good trucks: of 1 ton, paid 100 and its place. */
    private static PennyRates booked() {
        PennyRates x = new PennyRates();
        x.rate(0, 0, 0, 1, 5, 0, 0);
        x.pass(3);
        x.tape(0, 2, 80);
        for (int k = 0; k < 16; k++) {
            row(x, 0, 5 * k, 0, 0, 1, 100 + k, 3);
        }
        return x;
    }

    /** "rows .. by five numbers as these are told, from a place on: each is a TRUCK": "n (1 .. 16) TRUCKS: how many came" */
    private static void bookRows() {
        PennyRates x = booked();
        due("sixteen", x.book(0, 0, 16), 16);
        due("all came", x.ended(), 0);
        due("the least paid", x.friends(0, 0, 0, 1, 3, 3, 1), 100);
        due("the greatest paid", x.friends(0, 0, 0, 1, 3, 3, 2), 115);
        PennyRates y = booked();
        due("one", y.book(0, 0, 1), 1);
        due("one came", y.count(4), 1);
        due("from the last row on", y.book(0, 75, 1), 1);
        due("it is the last", y.friends(0, 0, 0, 1, 3, 3, 2), 115);
        due("all came", y.ended(), 0);
        row(y, 0, 0, 9, 9, 9, 9, 0, 19, 99, 99999, 0);
        due("from a place that is no five's", y.book(0, 4, 1), 1);
        due("as these are told", y.friends(0, 19, 0, 1, 0, 0, 3), 0);
        due("paid a ton", y.friends(0, 19, 0, 1, 0, 0, 2), 1010);
        due("three came", y.count(4), 3);
    }

    /** "It ends, TORN, where the row is missing or has not all five" */
    private static void bookTorn() {
        for (int i = -5; i < 80; i++) {
            PennyRates x = booked();
            for (int k = 0; k < 80; k++) {
                x.item(0, k, k % 5 == (i + 10) % 5 + 2 || k % 5 == (i + 10) % 5 - 3 ? 1 : 0);
            }
            int whole = i < 0 ? 0 : (80 - i) / 5;
            due("from " + i, x.book(0, i, 16), whole);
            due("from " + i + " ended", x.ended(), whole == 16 ? 0 : 1);
            due("what came ahead stays", x.count(4), whole);
        }
        PennyRates x = booked();
        for (int i : new int[] {-1, -5, 76, 77, 79, 80, 81, 85, Integer.MIN_VALUE, Integer.MAX_VALUE,
            Integer.MAX_VALUE - 4, Integer.MIN_VALUE + 5, 1 << 30}) {
            due("from " + i, x.book(0, i, 16), 0);
            due("torn", x.ended(), 1);
        }
        due("a tape with nothing", x.book(1, 0, 1), 0);
        due("torn there", x.ended(), 1);
        for (int n = 0; n <= 5; n++) {
            x.tape(1, 2, n);
            x.book(0, 0, 1);
            if (n == 5) {
                x.item(1, 2, 1);
            }
            due("a row of " + n, x.book(1, 0, 1), n == 5 ? 1 : 0);
            due("ended", x.ended(), n == 5 ? 0 : 1);
        }
    }

    /** "else where one may not be one" */
    private static void bookMayNotBeOne() {
        int[][] bad = {{-1, 0, 1, 0, 0}, {1, 0, 1, 0, 0}, {0, -1, 1, 0, 0}, {0, 20, 1, 0, 0}, {0, 0, 0, 0, 0},
            {0, 0, 100, 0, 0}, {0, 0, 1, -1, 0}, {0, 0, 1, 100000, 0}, {0, 0, 1, 0, -1}, {0, 0, 1, 0, 4}};
        int[][] good = {{0, 0, 1, 0, 0}, {0, 19, 1, 0, 0}, {0, 0, 99, 0, 0}, {0, 0, 1, 99999, 0}, {0, 0, 1, 0, 3}};
        for (int[] numbers : bad) {
            PennyRates x = booked();
            row(x, 0, 10, numbers);
            due("two came ahead", x.book(0, 0, 16), 2);
            due("one may not be one", x.ended(), 2);
            due("these stay", x.count(4), 2);
            due("it alone", x.book(0, 10, 1), 0);
            due("none came", x.count(4), 2);
        }
        for (int[] numbers : good) {
            PennyRates x = booked();
            row(x, 0, 10, numbers);
            due("all came", x.book(0, 0, 16), 16);
            due("none was not one", x.ended(), 0);
        }
    }

    /** "or there is no room" and "(of several the least)" */
    private static void bookOfSeveralTheLeast() {
        PennyRates x = booked();
        for (int k = 0; k < 78; k++) {
            x.truck(0, 0, 1, 0, 0);
        }
        due("two of sixteen", x.book(0, 0, 16), 2);
        due("no room", x.ended(), 3);
        due("eighty", x.count(4), 80);
        due("none", x.book(0, 0, 1), 0);
        due("no room still", x.ended(), 3);
        row(x, 0, 5, 0, 0, 0, 0, 0);
        due("none of two: the first has no room", x.book(0, 0, 2), 0);
        due("no room for the first", x.ended(), 3);
        due("one that may not be one and has no room", x.book(0, 5, 1), 0);
        due("the lesser", x.ended(), 2);
        due("torn and without room", x.book(0, 76, 1), 0);
        due("the least", x.ended(), 1);
        PennyRates y = booked();
        for (int k = 0; k < 64; k++) {
            y.truck(0, 0, 1, 0, 0);
        }
        due("sixteen just fill it", y.book(0, 0, 16), 16);
        due("all came", y.ended(), 0);
    }

    /** "CAST": a row of another sort, whatever the place; a tape with nothing is torn. */
    private static void bookOfInts() {
        PennyRates x = booked();
        for (int sort : new int[] {0, 1, 3}) {
            x.tape(1, sort, 5);
            x.item(1, 2, 1);
            due("sort " + sort, x.book(1, 0, 1), -12);
            due("sort " + sort + " beyond its end", x.book(1, 5, 1), -12);
            due("BAD ahead of CAST", x.book(1, 0, 17), -2);
            x.tape(1, sort, 0);
            due("sort " + sort + " without places", x.book(1, 0, 1), -12);
        }
        due("none was a book", x.ended(), -3);
        x.tape(1, 2, 5);
        x.item(1, 2, (1L << 32) + 1);
        due("an item is what it became", x.book(1, 0, 1), 1);
    }

    /** "Why the latest BOOK that was not refused ended" and "STATE: there was none" */
    private static void endedLatest() {
        PennyRates x = booked();
        due("none yet", x.ended(), -3);
        x.book(6, 0, 1);
        x.book(0, 0, 0);
        x.book(0, 0, 17);
        due("only refused ones", x.ended(), -3);
        x.book(0, 80, 1);
        due("torn", x.ended(), 1);
        x.book(0, 0, 1);
        due("the latest came", x.ended(), 0);
        x.book(-1, 0, 1);
        x.book(0, 0, 0);
        x.book(0, 0, 17);
        x.tape(2, 3, 5);
        x.book(2, 0, 1);
        due("behind refused ones", x.ended(), 0);
        x.truck(0, 0, 0, 0, 0);
        due("a truck is no book", x.ended(), 0);
        row(x, 0, 0, 0, 0, 0, 0, 0);
        x.book(0, 0, 1);
        due("may not be one", x.ended(), 2);
        due("asked again", x.ended(), 2);
    }

    /** "SAME: two TRUCKS from like to like STATIONS of like GOODS" */
    private static void sameStationsAndGoods() {
        PennyRates x = new PennyRates();
        int[][] stations = {{0, 1}, {0, 1}, {1, 0}, {0, 2}, {2, 1}, {15, 14}, {15, 14}};
        for (int k = 0; k < stations.length; k++) {
            x.rate(k % 2 == 0 ? 0 : 4, k % 6, stations[k][0], stations[k][1], k, 0, k);
            x.truck(k, 3, 1, k, 0);
        }
        for (int a = 0; a < stations.length; a++) {
            for (int b = 0; b < stations.length; b++) {
                if (a != b) {
                    boolean like = stations[a][0] == stations[b][0] && stations[a][1] == stations[b][1];
                    due(a + " and " + b, x.unlike(a, b, 0), like ? 1 : 0);
                    due(a + " and " + b + " unlike", x.unlike(a, b, 1), like ? 1 : 0);
                }
            }
        }
        x.truck(0, 13, 1, 9, 0);
        due("goods of one class are not like goods", x.unlike(0, 7, 0), 0);
        x.truck(0, 13, 99, 99999, 0);
        due("like goods, whatever else", x.unlike(8, 7, 0), 1);
        x.withdraw(0);
        due("a withdrawn rate's too", x.unlike(0, 1, 0), 1);
    }

    /** "E of same of THE COURT's LAW holds (on the later DAY of both ..)" */
    private static void sameOnTheLaterDay() {
        PennyRates x = new PennyRates();
        x.rate(0, 2, 0, 1, 5, 0, 0);
        x.pass(30);
        x.truck(0, 4, 1, 10, 10);
        x.truck(0, 4, 1, 20, 20);
        x.truck(0, 4, 1, 30, 20);
        Check.law(x, -1, 21, "same b");
        due("a law behind both", x.unlike(0, 1, 0), 1);
        Check.law(x, -1, 20, "same b");
        due("a law of the later day", x.unlike(0, 1, 0), 0);
        due("told the other way round", x.unlike(1, 0, 0), 0);
        Check.law(x, -1, 20, "same c=4");
        due("its class", x.unlike(0, 1, 0), 1);
        Check.law(x, 2, 20, "good 4 9");
        due("its class by its owner's law of the later day", x.unlike(0, 1, 0), 0);
        due("of two of that day", x.unlike(1, 2, 0), 0);
        Check.law(x, 2, 20, "good 4 4");
        due("its class again", x.unlike(0, 1, 0), 1);
        Check.law(x, -1, 20, "excuse x");
        due("the excuse of the later day", x.unlike(0, 1, 1), 0);
        Check.law(x, -1, 20, "excuse b");
        due("no excuse", x.unlike(0, 1, 1), 1);
    }

    /** "OWNER, TONS, GOOD and its CLASS, by THE LAW of that OWNER, being those of the first by number" */
    private static void firstByNumber() {
        PennyRates x = new PennyRates();
        x.rate(0, 1, 0, 1, 5, 0, 0);
        x.rate(0, 4, 0, 1, 5, 0, 0);
        x.pass(20);
        x.truck(0, 7, 10, 10, 20);
        x.truck(1, 7, 30, 10, 10);
        Check.law(x, 1, 20, "good 7 2");
        Check.law(x, 4, 20, "good 7 3");
        String[] first = {"o=1", "t<11", "t>9", "g=7", "c=2", "!x", "d>9", "d<11"};
        String[] second = {"o=4", "t<10", "t>10", "g=8", "c=3", "x", "d>10", "d<10"};
        for (int k = 0; k < first.length; k++) {
            asSame(x, first[k], 1);
            asSame(x, second[k], 0);
        }
    }

    /** The court's law of day 20 becomes this one; there is room for sixteen, so each is told to a new object too. */
    private static void asSame(PennyRates x, String e, int want) {
        if (x.count(2) < 16) {
            Check.law(x, -1, 20, "same " + e);
            due("same " + e, x.unlike(0, 1, 0), want);
            due("same " + e + ", the other way round", x.unlike(1, 0, 0), want);
        }
        PennyRates y = new PennyRates();
        y.rate(0, 1, 0, 1, 5, 0, 0);
        y.rate(0, 4, 0, 1, 5, 0, 0);
        y.pass(20);
        y.truck(0, 7, 10, 10, 20);
        y.truck(1, 7, 30, 10, 10);
        Check.law(y, 1, 20, "good 7 2");
        Check.law(y, 4, 20, "good 7 3");
        Check.law(y, -1, 20, "excuse " + e);
        due("excuse " + e, y.unlike(0, 1, 1), 1 - want);
        due("excuse " + e + ", the other way round", y.unlike(1, 0, 1), 1 - want);
    }

    /** "t<n, t>n (TONS), d<n, d>n (DAYS between the two trucks)": neither holds for n itself. */
    private static void testsOfTrucks() {
        for (int n : new int[] {0, 1, 2, 50, 98, 99, 100, 9999}) {
            for (int tons : new int[] {1, 2, 50, 99}) {
                testOf(tons, 0, "t<" + n, tons < n);
                testOf(tons, 0, "t>" + n, tons > n);
            }
            for (int days : new int[] {0, 1, 2, 50, 99, 100}) {
                testOf(1, days, "d<" + n, days < n);
                testOf(1, days, "d>" + n, days > n);
            }
        }
        for (int good = 0; good < 20; good++) {
            PennyRates x = new PennyRates();
            x.rate(0, good % 6, 0, 1, 5, 0, 0);
            x.truck(0, good, 1, 1, 0);
            x.truck(0, good, 1, 1, 0);
            Check.law(x, -1, 0, "same g=" + good + "&c=" + good % 10 + "&o=" + good % 6);
            due("good " + good, x.unlike(0, 1, 0), 1);
            Check.law(x, -1, 0, "same g=" + (good + 1) + "|c=" + (good % 10 + 1) + "|o=" + (good % 6 + 1));
            due("one more than each of good " + good, x.unlike(0, 1, 0), 0);
            Check.law(x, -1, 0, "same g=" + (good + 20) + "|c=" + (good % 10 + 10) + "|o=" + (good % 6 + 10));
            due("another round of good " + good, x.unlike(0, 1, 0), 0);
        }
    }

    private static void testOf(int tons, int days, String test, boolean want) {
        PennyRates x = new PennyRates();
        x.rate(0, 0, 0, 1, 5, 0, 0);
        x.pass(100);
        x.truck(0, 0, tons, 1, days);
        x.truck(0, 0, 7, 1, 0);
        x.truck(0, 0, tons, 1, 0);
        x.truck(0, 0, 7, 1, days);
        Check.law(x, -1, 0, "same " + test);
        due(test + " of " + tons + " tons, " + days + " days", x.unlike(0, 1, 0), want ? 1 : 0);
        due(test + " of " + tons + " tons, " + days + " days later", x.unlike(2, 3, 0), want ? 1 : 0);
    }

    /** "b (one of both RATES is a BOAT, or was), x (both RATES are of one OWNER)" */
    private static void boatOrWas() {
        PennyRates x = new PennyRates();
        int[] kinds = {0, 1, 3, 4, 4, 0};
        for (int k = 0; k < kinds.length; k++) {
            x.rate(kinds[k], k < 5 ? k : 0, 0, 1, 5, 0, 0);
            x.truck(k, 0, 1, 1, 0);
        }
        Check.law(x, -1, 0, "same b");
        for (int a = 0; a < 6; a++) {
            for (int b = 0; b < 6; b++) {
                if (a != b) {
                    due("b of " + a + " and " + b, x.unlike(a, b, 0), kinds[a] == 4 || kinds[b] == 4 ? 1 : 0);
                }
            }
        }
        x.withdraw(3);
        due("was a boat", x.unlike(0, 3, 0), 1);
        x.set(4, 9);
        due("was one too", x.unlike(1, 4, 0), 1);
        x.truck(6, 0, 1, 1, 0);
        due("a set never was one", x.unlike(0, 6, 0), 0);
        x.undo(6);
        due("nor is it when undone", x.unlike(0, 6, 0), 0);
        Check.law(x, -1, 0, "same x");
        due("x: of one owner", x.unlike(0, 5, 0), 1);
        due("x: the other way round", x.unlike(5, 0, 0), 1);
        due("x: of two", x.unlike(0, 1, 0), 0);
        due("x: a set is of its rate's owner", x.unlike(4, 6, 0), 1);
    }

    /** "UNLIKE: SAME ones PAID otherwise a ton (PAID of the one times TONS of the other one)" */
    private static void paidOtherwise() {
        int[][] twos = {{0, 1, 0, 99, 0}, {0, 1, 1, 99, 1}, {5, 1, 10, 2, 0}, {5, 1, 11, 2, 1}, {5, 1, 9, 2, 1},
            {99999, 99, 99999, 99, 0}, {99999, 99, 99998, 99, 1}, {99999, 99, 99999, 98, 1}, {10, 3, 20, 6, 0},
            {10, 3, 21, 6, 1}, {99999, 99, 1010, 1, 1}, {33333, 33, 99999, 99, 0}};
        for (int[] two : twos) {
            PennyRates x = new PennyRates();
            x.rate(0, 0, 0, 1, 5, 0, 0);
            x.truck(0, 0, two[1], two[0], 0);
            x.truck(0, 0, two[3], two[2], 0);
            String told = two[0] + " for " + two[1] + ", " + two[2] + " for " + two[3];
            due(told, x.unlike(0, 1, 1), two[4]);
            due(told + " round", x.unlike(1, 0, 1), two[4]);
            due(told + " same", x.unlike(0, 1, 0), 1);
            due(told + " twos", x.unlikes(0), two[4]);
        }
    }

    /** "for which E of excuse .. does not hold": without one it doesn't. */
    private static void excused() {
        PennyRates x = new PennyRates();
        x.rate(0, 0, 0, 1, 5, 0, 0);
        x.truck(0, 0, 1, 1, 0);
        x.truck(0, 0, 1, 2, 0);
        due("without a law", x.unlike(0, 1, 1), 1);
        Check.law(x, -1, 0, "even");
        due("without an excuse", x.unlike(0, 1, 1), 1);
        Check.law(x, -1, 0, "excuse b");
        due("one that does not hold", x.unlike(0, 1, 1), 1);
        Check.law(x, -1, 0, "excuse x");
        due("one that holds", x.unlike(0, 1, 1), 0);
        due("they are same still", x.unlike(0, 1, 0), 1);
        due("none is left", x.unlikes(0), 0);
        due("no lesser", x.unlikes(1), -1);
        due("no greater", x.unlikes(2), -1);
        Check.law(x, -1, 0, "same b;excuse b");
        due("not same: not unlike", x.unlike(0, 1, 1), 0);
        Check.law(x, 0, 0, "same x;excuse x");
        due("an owner's same is not asked", x.unlike(0, 1, 0), 0);
    }

    /** "of the first (by the lesser, then the greater) the lesser (1), the greater (2; NONE)" */
    private static void firstOfTheTwos() {
        PennyRates x = new PennyRates();
        for (int k = 0; k < 3; k++) {
            x.rate(0, 0, k, 15, 5, 0, 0);
        }
        int[][] trucks = {{0, 5}, {1, 5}, {1, 5}, {2, 5}, {2, 6}, {1, 6}, {0, 6}};
        int[] counts = {0, 0, 0, 0, 1, 3, 4};
        int[] lesser = {-1, -1, -1, -1, 3, 1, 0};
        int[] greater = {-1, -1, -1, -1, 4, 5, 6};
        for (int k = 0; k < trucks.length; k++) {
            x.truck(trucks[k][0], 0, 1, trucks[k][1], 0);
            due("twos of " + (k + 1), x.unlikes(0), counts[k]);
            due("the lesser of " + (k + 1), x.unlikes(1), lesser[k]);
            due("the greater of " + (k + 1), x.unlikes(2), greater[k]);
        }
        x.truck(0, 0, 1, 7, 0);
        due("of those with 0 the least greater", x.unlikes(2), 6);
        PennyRates y = new PennyRates();
        y.rate(0, 0, 0, 15, 5, 0, 0);
        for (int k = 0; k < 80; k++) {
            y.truck(0, k < 78 ? k % 19 : 19, 1, k < 78 ? 5 : k, 0);
        }
        due("the last two of all", y.unlikes(0), 1);
        due("the last but one", y.unlikes(1), 78);
        due("the last", y.unlikes(2), 79);
    }

    /** "of DAYS no more than back ahead of TODAY (THE COURT's LAW today)" */
    private static void suitBack() {
        PennyRates x = new PennyRates();
        x.rate(0, 0, 3, 4, 1, 0, 0);
        x.pass(400);
        int[] days = {34, 35, 36, 399, 400};
        for (int k = 0; k < days.length; k++) {
            x.truck(0, 0, 1, 1 + (1 << k), days[k]);
        }
        due("365 days back", x.suit(3), 2 + 4 + 8 + 16);
        String[] backs = {"0", "1", "2", "364", "365", "366", "9999"};
        int[] suits = {16, 24, 24, 28, 30, 31, 31};
        for (int k = 0; k < backs.length; k++) {
            Check.law(x, -1, 400, "back " + backs[k]);
            due("back " + backs[k], x.suit(3), suits[k]);
        }
        Check.law(x, -1, 401, "back 0");
        due("not tomorrow's law", x.suit(3), 31);
        Check.law(x, 0, 400, "back 0");
        due("not the owner's law", x.suit(3), 31);
        due("by rates to it there is none", x.suit(4), 0);
        x.pass(1);
        due("tomorrow it is", x.suit(3), 0);
    }

    /** "with a DUE less than PAID: PAID less DUE" */
    private static void suitDueLess() {
        PennyRates x = new PennyRates();
        x.rate(0, 0, 0, 1, 50, 0, 0);
        x.rate(0, 0, 15, 1, 0, 0, 0);
        int[] paid = {0, 99, 100, 101, 99999};
        int[] more = {0, 0, 0, 1, 1 + 99899};
        for (int k = 0; k < paid.length; k++) {
            x.truck(0, 0, 2, paid[k], 0);
            due("with paid " + paid[k], x.suit(0), more[k]);
        }
        x.truck(0, 1, 2, 99999, 0);
        due("one without a due", x.suit(0), more[4]);
        x.truck(1, 0, 2, 0, 0);
        due("a due of nothing, nothing paid", x.suit(15), 0);
        x.truck(1, 0, 2, 1, 0);
        due("a due of nothing, a penny paid", x.suit(15), 1);
        due("no trucks from there", x.suit(1), 0);
    }

    /** "and gain thousandths of that for each whole 365 DAYS since (cut once for each TRUCK)" */
    private static void suitGain() {
        PennyRates x = new PennyRates();
        x.rate(0, 0, 0, 1, 0, 0, 0);
        x.truck(0, 0, 1, 7, 0);
        x.truck(0, 0, 1, 7, 0);
        Check.law(x, -1, 0, "back 9999;gain 500");
        int[] today = {364, 365, 366, 729, 730, 731, 1094, 1095};
        int[] one = {7, 10, 10, 10, 14, 14, 14, 17};
        for (int k = 0; k < today.length; k++) {
            x.pass(today[k] - x.count(0));
            due("day " + today[k], x.suit(0), 2 * one[k]);
        }
        Check.law(x, -1, 1095, "back 9999;gain 1000");
        due("as much again each year", x.suit(0), 2 * 28);
        Check.law(x, -1, 1095, "back 9999;gain 1");
        due("one thousandth is cut", x.suit(0), 2 * 7);
        Check.law(x, -1, 1095, "back 9999;gain 47");
        due("141 thousandths of 7 are cut", x.suit(0), 2 * 7);
        Check.law(x, -1, 1095, "back 9999;gain 48");
        due("144 thousandths of 7 are 1", x.suit(0), 2 * 8);
        Check.law(x, -1, 1095, "back 9999");
        due("no gain", x.suit(0), 2 * 7);
        Check.law(x, 0, 1095, "gain 9999");
        due("not the owner's", x.suit(0), 2 * 7);
    }

    /** "A SUIT. NO: no such STATION.": a long, for it may be more than an int. */
    private static void suitLargest() {
        PennyRates x = new PennyRates();
        x.rate(0, 0, 15, 4, 0, 0, 0);
        for (int k = 0; k < 80; k++) {
            x.truck(0, 0, 1, 99999, 0);
        }
        for (int k = 0; k < 25; k++) {
            x.pass(k < 24 ? 400 : 399);
        }
        Check.law(x, -1, 0, "back 9999;gain 9999");
        due("27 whole years of 9999 days", x.suit(15), 80 * (99999 + 99999L * 9999 * 27 / 1000));
        due("16 is none", x.suit(16), PennyRates.NO);
        due("-1 is none", x.suit(-1), PennyRates.NO);
    }

    /** "CHEAP: .. the least sum of CHARGES of RATES that SERVE, each from where the one ahead ends (8 at most)" */
    private static void cheapEight() {
        PennyRates x = new PennyRates();
        for (int s = 0; s < 15; s++) {
            x.rate(0, 0, s, s + 1, 1, 0, 0);
        }
        for (int far = 1; far <= 15; far++) {
            due("over " + far, x.cheap(0, far, 0, 1, 0, 0), far <= 8 ? far : -3);
            due("how many over " + far, x.cheap(0, far, 0, 1, 0, 1), far <= 8 ? far : -3);
            due("the last over " + far, x.cheap(0, far, 0, 1, 0, 9 + far), far <= 8 ? far - 1 : -3);
            due("none behind over " + far, x.cheap(0, far, 0, 1, 0, 10 + far), far <= 8 ? -1 : -3);
        }
        due("the last eight", x.cheap(7, 15, 0, 1, 0, 17), 14);
        x.rate(0, 0, 0, 9, 9999, 0, 0);
        due("nine would be 9", x.cheap(0, 9, 0, 1, 0, 0), 9999);
        due("one and one more", x.cheap(0, 10, 0, 1, 0, 0), 10000);
        due("one and six more", x.cheap(0, 15, 0, 1, 0, 1), 7);
        due("not back", x.cheap(1, 0, 0, 1, 0, 0), -3);
        PennyRates y = new PennyRates();
        for (int s = 0; s < 8; s++) {
            y.rate(3, 0, s, s + 1, 99, 0, 0);
            for (int k = 0; k < 4; k++) {
                y.line(0, s, s + 1, 200);
            }
        }
        Check.law(y, -1, 0, "term 9999;small 9999");
        due("eight of the dearest", y.cheap(0, 8, 0, 1, 0, 0), 8 * 99 * (1980 + 9999));
    }

    /** "of several the one with the fewest RATES, then with the least numbers, from the first on" */
    private static void cheapOfSeveral() {
        PennyRates x = new PennyRates();
        x.rate(0, 0, 2, 3, 2, 0, 0);
        x.rate(0, 0, 0, 1, 2, 0, 0);
        x.rate(0, 0, 1, 3, 4, 0, 0);
        x.rate(0, 0, 1, 2, 2, 0, 0);
        x.rate(0, 0, 0, 2, 4, 0, 0);
        due("6 by two ways of two and one of three", x.cheap(0, 3, 0, 1, 0, 0), 6);
        due("the fewest", x.cheap(0, 3, 0, 1, 0, 1), 2);
        due("the least first", x.cheap(0, 3, 0, 1, 0, 10), 1);
        due("though its second is greater", x.cheap(0, 3, 0, 1, 0, 11), 2);
        x.rate(0, 0, 0, 3, 7, 0, 0);
        due("one that is a penny dearer is not", x.cheap(0, 3, 0, 1, 0, 1), 2);
        x.rate(0, 0, 0, 3, 6, 0, 0);
        due("one of as many pence is", x.cheap(0, 3, 0, 1, 0, 1), 1);
        due("it", x.cheap(0, 3, 0, 1, 0, 10), 6);
        x.rate(0, 0, 0, 3, 6, 0, 0);
        due("of two like ones the least", x.cheap(0, 3, 0, 1, 0, 10), 6);
        x.rate(0, 0, 0, 1, 1, 5, 0);
        due("the day ahead", x.cheap(0, 3, 0, 1, 4, 0), 6);
        due("a penny less that day", x.cheap(0, 3, 0, 1, 5, 0), 5);
        due("by two", x.cheap(0, 3, 0, 1, 5, 1), 2);
        due("its first", x.cheap(0, 3, 0, 1, 5, 10), 8);
        due("its second", x.cheap(0, 3, 0, 1, 5, 11), 2);
        PennyRates y = new PennyRates();
        y.rate(0, 0, 1, 2, 0, 0, 0);
        y.rate(0, 0, 2, 1, 0, 0, 0);
        y.rate(0, 0, 1, 3, 0, 0, 0);
        y.rate(0, 0, 3, 4, 0, 0, 0);
        due("for nothing, and none goes round", y.cheap(1, 4, 0, 1, 0, 1), 2);
        due("first", y.cheap(1, 4, 0, 1, 0, 10), 2);
        due("second", y.cheap(1, 4, 0, 1, 0, 11), 3);
    }

    /** "STATE: there is none. (NONE, too, behind all: no RATE i.)" */
    private static void cheapNoRate() {
        PennyRates x = new PennyRates();
        x.rate(0, 0, 0, 1, 5, 0, 0);
        x.rate(0, 0, 1, 2, 5, 0, 0);
        int[] whats = {0, 1, 10, 11, 12, 13, 17, 18, Integer.MAX_VALUE};
        int[] answers = {10, 2, 0, 1, -1, -1, -1, -1, -1};
        for (int k = 0; k < whats.length; k++) {
            due("what " + whats[k], x.cheap(0, 2, 0, 1, 0, whats[k]), answers[k]);
            due("what " + whats[k] + " where there is none", x.cheap(2, 0, 0, 1, 0, whats[k]), -3);
            due("what " + whats[k] + " with 0 tons", x.cheap(0, 2, 0, 0, 0, whats[k]), -2);
        }
        for (int what : new int[] {2, 5, 9, -1}) {
            due("what " + what + " ahead of all", x.cheap(2, 2, 0, 0, -1, what), -1);
        }
    }

    /** "CRY ..: how many STATIONS farther .. (by MILES of WAYS by any LINES) can have a GOOD, TONS carried there CHEAPER (CHEAP)" */
    private static void cryFarther() {
        PennyRates x = new PennyRates();
        for (int s = 1; s < 16; s++) {
            x.line(s % 6, 0, s, s <= 2 ? 10 : 9 + s);
        }
        x.rate(0, 0, 1, 0, 10, 0, 0);
        due("none of the others has a charge", x.cry(1, 0, 0, 1, 0), 0);
        for (int s = 2; s < 16; s++) {
            x.rate(0, 0, s, 0, s == 3 ? 10 : 9, 0, 0);
        }
        due("2 is as far, 3 is as dear", x.cry(1, 0, 0, 1, 0), 12);
        due("of those as far as it", x.cry(2, 0, 0, 1, 0), 0);
        due("as dear as the first, but farther", x.cry(3, 0, 0, 1, 0), 12);
        due("the farthest", x.cry(15, 0, 0, 1, 0), 0);
        x.rate(0, 0, 3, 0, 9, 7, 0);
        due("cheaper from day 7 on", x.cry(1, 0, 0, 1, 7), 13);
        due("not on day 6", x.cry(1, 0, 0, 1, 6), 12);
        x.rate(0, 0, 1, 2, 0, 9, 0);
        due("it is as cheap over another one", x.cry(1, 0, 0, 1, 9), 0);
        x.line(0, 2, 1, 9);
        due("its miles are as before", x.cry(2, 0, 0, 1, 6), 0);
        x.line(0, 1, 0, 9);
        due("2 is farther now", x.cry(1, 0, 0, 1, 6), 13);
        PennyRates y = new PennyRates();
        y.line(0, 8, 9, 5);
        y.line(0, 9, 0, 5);
        y.line(0, 9, 15, 5);
        y.rate(0, 0, 9, 8, 1, 0, 0);
        due("the two farther ones have no charge", y.cry(9, 8, 0, 1, 0), 0);
        y.rate(0, 0, 0, 8, 0, 0, 0);
        due("station 0 is one, for nothing", y.cry(9, 8, 0, 1, 0), 1);
        y.rate(0, 0, 15, 8, 0, 0, 0);
        due("and station 15", y.cry(9, 8, 0, 1, 0), 2);
        due("than nothing none is cheaper", y.cry(0, 8, 0, 1, 0), 0);
        y.rate(0, 0, 9, 8, 0, 0, 0);
        due("nor than the nearest for nothing", y.cry(9, 8, 0, 1, 0), 0);
        for (int far = 0; far < 8; far++) {
            due("without a way from it", y.cry(far, 8, 0, 1, 0), far == 0 ? 0 : -3);
        }
    }
}
