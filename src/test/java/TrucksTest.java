/** Promises 18 to 26: truck, book, ended, due, unlike, unlikes, suit, cheap, cry. */
public final class TrucksTest {
    private static final Check CHECK = new Check("TrucksTest");

    private static void due(String call, long got, long want) {
        CHECK.due(call, got, want);
    }

    public static void main(String[] args) {
        truck();
        trucksFull();
        bookRefusals();
        book();
        bookWithoutRoom();
        dueOf();
        unlikeRefusals();
        same();
        sameTests();
        sameDay();
        excuse();
        unlikes();
        suit();
        suitLimits();
        cheapRefusals();
        cheapTies();
        cheapLegs();
        cry();
        CHECK.end();
    }

    private static void truck() {
        PennyRates x = new PennyRates();
        due("no rate", x.truck(0, 0, 1, 0, 0), -1);
        x.rate(0, 0, 0, 1, 5, 0, 0);
        x.pass(4);
        due("rate -1", x.truck(-1, 0, 1, 0, 0), -1);
        due("good -1", x.truck(0, -1, 1, 0, 0), -1);
        due("good 20", x.truck(0, 20, 1, 0, 0), -1);
        due("NONE ahead of BAD", x.truck(1, 0, 0, -1, 9), -1);
        due("tons 0", x.truck(0, 0, 0, 0, 0), -2);
        due("tons 100", x.truck(0, 0, 100, 0, 0), -2);
        due("paid -1", x.truck(0, 0, 1, -1, 0), -2);
        due("paid 100000", x.truck(0, 0, 1, 100000, 0), -2);
        due("day -1", x.truck(0, 0, 1, 0, -1), -2);
        due("day beyond today", x.truck(0, 0, 1, 0, 5), -2);
        due("none came", x.count(4), 0);
        due("today", x.truck(0, 0, 1, 0, 4), 0);
        due("another day", x.truck(0, 19, 99, 99999, 0), 1);
        x.withdraw(0);
        due("by a withdrawn rate", x.truck(0, 0, 1, 0, 4), 2);
        due("three", x.count(4), 3);
    }

    private static void trucksFull() {
        PennyRates x = new PennyRates();
        x.rate(0, 0, 0, 1, 5, 0, 0);
        for (int k = 0; k < 80; k++) {
            due("truck " + k, x.truck(0, 0, 1, k, 0), k);
        }
        due("the 81st", x.truck(0, 0, 1, 1, 0), -4);
        due("BAD ahead of FULL", x.truck(0, 0, 0, 1, 0), -2);
        due("NONE ahead of FULL", x.truck(1, 0, 1, 1, 0), -1);
        due("eighty", x.count(4), 80);
        due("twos", x.unlikes(0), 80 * 79 / 2);
    }

    private static void row(PennyRates x, int tape, int at, int... numbers) {
        for (int k = 0; k < numbers.length; k++) {
            due("item", x.item(tape, at + k, numbers[k]), 1);
        }
    }

    private static void bookRefusals() {
        PennyRates x = new PennyRates();
        due("tape -1", x.book(-1, 0, 1), -1);
        due("tape 6", x.book(6, 0, 1), -1);
        due("NONE ahead of BAD", x.book(6, 0, 0), -1);
        due("n 0", x.book(0, 0, 0), -2);
        due("n 17", x.book(0, 0, 17), -2);
        for (int sort : new int[] {0, 1, 3}) {
            x.tape(1, sort, 10);
            due("sort " + sort, x.book(1, 0, 1), -12);
            due("BAD ahead of CAST", x.book(1, 0, 17), -2);
        }
        due("all refused", x.ended(), -3);
        due("nothing there", x.book(0, 0, 1), 0);
        due("torn", x.ended(), 1);
        due("refused", x.book(1, 0, 1), -12);
        due("a refused one tells nothing", x.ended(), 1);
    }

    private static void book() {
        PennyRates x = new PennyRates();
        x.rate(0, 0, 0, 1, 5, 0, 0);
        x.pass(9);
        x.tape(2, 2, 18);
        row(x, 2, 1, 0, 10, 3, 15, 9);
        row(x, 2, 6, 0, 0, 99, 99999, 0);
        row(x, 2, 11, 0, 0, 5, 20, 10);
        due("one", x.book(2, 1, 1), 1);
        due("all came", x.ended(), 0);
        due("its good", x.friends(0, 10, 0, 1, 9, 9, 0), 1);
        due("its paid a ton", x.friends(0, 10, 0, 1, 9, 9, 2), 5);
        due("its due", x.due(0), 15);
        due("two of three", x.book(2, 1, 3), 2);
        due("the third may not be one", x.ended(), 2);
        due("three came", x.count(4), 3);
        due("by a day later", x.pass(1), 10);
        due("three of four", x.book(2, 1, 4), 3);
        due("torn: two numbers are left", x.ended(), 1);
        due("from the end", x.book(2, 18, 1), 0);
        due("torn", x.ended(), 1);
        due("from -1", x.book(2, -1, 1), 0);
        due("torn there", x.ended(), 1);
        due("far beyond", x.book(2, Integer.MAX_VALUE, 16), 0);
        due("torn far beyond", x.ended(), 1);
        due("far ahead", x.book(2, Integer.MIN_VALUE, 16), 0);
        due("just the last five: zeros are no tons", x.book(2, 13, 1), 0);
        due("may not be one", x.ended(), 2);
        due("six came", x.count(4), 6);
        x.tape(2, 2, 0);
        due("an empty row", x.book(2, 0, 1), 0);
        due("is torn", x.ended(), 1);
        x.tape(3, 2, 80);
        for (int k = 0; k < 16; k++) {
            row(x, 3, 5 * k, 0, 0, 1, k, 0);
        }
        due("sixteen", x.book(3, 0, 16), 16);
        due("all sixteen", x.ended(), 0);
        due("the last's paid", x.friends(0, 0, 0, 1, 0, 0, 0), 18);
    }

    private static void bookWithoutRoom() {
        PennyRates x = new PennyRates();
        x.rate(0, 0, 0, 1, 5, 0, 0);
        for (int k = 0; k < 79; k++) {
            x.truck(0, 0, 1, 0, 0);
        }
        x.tape(0, 2, 15);
        row(x, 0, 0, 0, 0, 1, 0, 0);
        row(x, 0, 5, 0, 0, 1, 0, 0);
        due("one of two", x.book(0, 0, 2), 1);
        due("no room", x.ended(), 3);
        due("none", x.book(0, 5, 2), 0);
        due("no room still", x.ended(), 3);
        due("none that may be one", x.book(0, 10, 1), 0);
        due("the least of both", x.ended(), 2);
        due("torn", x.book(0, 11, 1), 0);
        due("the least of all", x.ended(), 1);
    }

    private static void dueOf() {
        PennyRates x = new PennyRates();
        due("none", x.due(0), -1);
        x.rate(0, 0, 0, 1, 5, 3, 0);
        x.pass(10);
        x.truck(0, 10, 4, 9, 3);
        x.truck(0, 10, 4, 9, 2);
        x.truck(0, 11, 4, 9, 3);
        due("-1", x.due(-1), -1);
        due("3", x.due(3), -1);
        due("served", x.due(0), 20);
        due("ahead of print", x.due(1), -3);
        due("another class", x.due(2), -3);
        Check.law(x, 0, 3, "term 1;good 11 0");
        due("by the law of its day", x.due(0), 24);
        due("its class by the law of its day", x.due(2), 24);
        x.withdraw(0);
        due("its day is ahead", x.due(0), 24);
        x.rate(0, 0, 0, 1, 0, 10, 0);
        x.truck(1, 0, 4, 9, 10);
        Check.law(x, 0, 10, "term 0");
        due("due is nothing", x.due(3), 0);
    }

    private static void unlikeRefusals() {
        PennyRates x = new PennyRates();
        x.rate(0, 0, 0, 1, 5, 0, 0);
        x.truck(0, 0, 1, 1, 0);
        x.truck(0, 0, 1, 2, 0);
        due("-1", x.unlike(-1, 0, 0), -1);
        due("2", x.unlike(0, 2, 0), -1);
        due("NONE ahead of BAD", x.unlike(2, 2, 0), -1);
        due("one", x.unlike(1, 1, 0), -2);
        due("BAD ahead of what", x.unlike(1, 1, 2), -2);
        due("what -1", x.unlike(0, 1, -1), -1);
        due("what 2", x.unlike(0, 1, 2), -1);
        due("same", x.unlike(0, 1, 0), 1);
        due("unlike", x.unlike(1, 0, 1), 1);
    }

    private static void same() {
        PennyRates x = new PennyRates();
        x.rate(0, 0, 0, 1, 5, 0, 0);
        x.rate(4, 3, 0, 1, 9, 0, 5);
        x.rate(0, 0, 1, 0, 5, 0, 0);
        x.rate(0, 0, 0, 2, 5, 0, 0);
        x.rate(0, 0, 2, 1, 5, 0, 0);
        for (int rate = 0; rate < 5; rate++) {
            x.truck(rate, 7, 2, 10, 0);
        }
        x.truck(0, 17, 2, 10, 0);
        x.truck(1, 7, 4, 20, 0);
        x.truck(1, 7, 4, 21, 0);
        due("other rates, like stations", x.unlike(0, 1, 0), 1);
        due("the other way", x.unlike(0, 2, 0), 0);
        due("to another one", x.unlike(0, 3, 0), 0);
        due("from another one", x.unlike(0, 4, 0), 0);
        due("another good of one class", x.unlike(0, 5, 0), 0);
        due("paid alike a ton", x.unlike(0, 6, 1), 0);
        due("same all the same", x.unlike(0, 6, 0), 1);
        due("paid otherwise a ton", x.unlike(0, 7, 1), 1);
        due("not same, so not unlike", x.unlike(3, 7, 1), 0);
    }

    private static void holdsFor(PennyRates x, String test, int want) {
        Check.law(x, -1, 0, "same " + test);
        due("same " + test, x.unlike(1, 0, 0), want);
        Check.law(x, -1, 0, "same !(" + test + ")");
        due("same !(" + test + ")", x.unlike(0, 1, 0), 1 - want);
    }

    private static PennyRates two() {
        PennyRates x = new PennyRates();
        x.rate(0, 2, 0, 1, 5, 0, 0);
        x.rate(4, 3, 0, 1, 9, 0, 5);
        x.pass(50);
        x.truck(0, 14, 6, 10, 30);
        x.truck(1, 14, 9, 10, 20);
        return x;
    }

    private static void sameTests() {
        String[] hold = {"g=14", "g=0014", "c=4", "o=2", "t<7", "t>5", "d<11", "d>9", "b", "!x", "x|b", "b&d>9",
            "x&x|b", "b|x&x", "(b|x)&b", "!(x|x)", "!x&!x", "b&b&b", "x|x|b", "!!b", "b&(x|b&!x)"};
        String[] fail = {"g=4", "g=15", "c=14", "o=3", "t<6", "t>6", "d<10", "d>10", "x", "x&b", "!b|x", "!x&x",
            "(b|x)&x", "x|b&x", "!b", "b&b&x", "x|x|x", "!(x|b)", "!x&!b"};
        for (String test : hold) {
            holdsFor(two(), test, 1);
        }
        for (String test : fail) {
            holdsFor(two(), test, 0);
        }
        for (String sort : new String[] {"g=", "c=", "o=", "t>", "d>"}) {
            holdsFor(two(), sort + "9999", 0);
            holdsFor(two(), sort + "9998", 0);
        }
        for (String sort : new String[] {"t<", "d<"}) {
            holdsFor(two(), sort + "9999", 1);
            holdsFor(two(), sort + "0", 0);
        }
        PennyRates w = new PennyRates();
        w.rate(0, 0, 0, 1, 5, 0, 0);
        w.truck(0, 0, 1, 1, 0);
        w.truck(0, 0, 1, 1, 0);
        holdsFor(w, "g=9999", 0);
        holdsFor(w, "c=9999", 0);
        holdsFor(w, "g=0&c=0&o=0&x", 1);
        PennyRates x = two();
        x.withdraw(1);
        holdsFor(x, "b", 1);
        PennyRates y = two();
        y.set(1, 5);
        holdsFor(y, "b", 1);
        y.truck(2, 14, 1, 5, 50);
        due("a set in place of a boat is none", y.unlike(0, 2, 0), 1);
        Check.law(y, -1, 0, "same b");
        due("a set in place of a boat is none, told straight", y.unlike(0, 2, 0), 0);
        Check.law(y, -1, 0, "same x");
        due("two of one owner", y.unlike(1, 2, 0), 1);
    }

    private static void sameDay() {
        PennyRates x = two();
        Check.law(x, -1, 30, "same o=3");
        due("the later day's law", x.unlike(0, 1, 0), 0);
        PennyRates y = two();
        Check.law(y, -1, 31, "same o=3");
        due("a law of a day later still", y.unlike(0, 1, 0), 1);
        PennyRates z = two();
        Check.law(z, -1, 0, "same c=9");
        due("the class of the good", z.unlike(0, 1, 0), 0);
        Check.law(z, 2, 30, "good 14 9");
        due("by the law of the first's owner on the later day", z.unlike(0, 1, 0), 1);
        Check.law(z, 2, 30, "good 14 8");
        Check.law(z, 3, 0, "good 14 9");
        due("not by the second's", z.unlike(0, 1, 0), 0);
        PennyRates w = two();
        Check.law(w, 2, 0, "same x;excuse b");
        due("an owner's same is not heard", w.unlike(0, 1, 0), 1);
        due("nor is its excuse", w.unlike(0, 1, 1), 1);
    }

    private static void excuse() {
        PennyRates x = two();
        due("unlike", x.unlike(0, 1, 1), 1);
        Check.law(x, -1, 0, "excuse t<6");
        due("tons of the first by number", x.unlike(1, 0, 1), 1);
        Check.law(x, -1, 0, "excuse t<7");
        due("excused", x.unlike(1, 0, 1), 0);
        due("yet same", x.unlike(1, 0, 0), 1);
        Check.law(x, -1, 31, "even");
        due("excused that day", x.unlike(1, 0, 1), 0);
        Check.law(x, -1, 30, "excuse x;excuse x&b");
        due("the last counts", x.unlike(1, 0, 1), 1);
        Check.law(x, -1, 30, "same b;excuse b");
        due("both", x.unlike(1, 0, 0) * 10 + x.unlike(1, 0, 1), 10);
        Check.law(x, -1, 30, "same x;excuse b");
        Check.law(x, -1, 30, "even");
        due("a law has not what the one ahead of it had", x.unlike(1, 0, 0) * 10 + x.unlike(1, 0, 1), 11);
        String longE = "x|x|x|x|x|x|x|x|x|x|x|x|x|x|x|x|x|x|x|x|x|x|x|x|x|x|x|x|x|x|x|x|x|x|x|x|x|x|x|x|x";
        for (int k = 0; k < 4; k++) {
            Check.law(x, -1, 30, "same " + longE + "|b");
            due("long ones, one behind another", x.unlike(1, 0, 0), 1);
            Check.law(x, -1, 30, "same " + longE);
            due("long ones that don't hold", x.unlike(1, 0, 0), 0);
        }
        Check.law(x, -1, 30, "excuse b;same x");
        due("neither", x.unlike(1, 0, 0) * 10 + x.unlike(1, 0, 1), 0);
    }

    private static void unlikes() {
        PennyRates x = new PennyRates();
        due("what -1", x.unlikes(-1), -1);
        due("what 3", x.unlikes(3), -1);
        due("none", x.unlikes(0), 0);
        due("no lesser", x.unlikes(1), -1);
        due("no greater", x.unlikes(2), -1);
        x.rate(0, 0, 0, 1, 5, 0, 0);
        x.rate(0, 0, 0, 2, 5, 0, 0);
        x.truck(1, 0, 1, 5, 0);
        x.truck(0, 0, 1, 5, 0);
        x.truck(0, 0, 2, 10, 0);
        due("paid alike", x.unlikes(0), 0);
        x.truck(0, 0, 3, 10, 0);
        x.truck(1, 0, 3, 10, 0);
        due("three", x.unlikes(0), 3);
        due("what -1 of three", x.unlikes(-1), -1);
        due("what 3 of three", x.unlikes(3), -1);
        due("the lesser", x.unlikes(1), 0);
        due("the greater", x.unlikes(2), 4);
        Check.law(x, -1, 0, "excuse t<2");
        due("one", x.unlikes(0), 1);
        due("its lesser", x.unlikes(1), 2);
        due("its greater", x.unlikes(2), 3);
    }

    private static void suit() {
        PennyRates x = new PennyRates();
        due("station -1", x.suit(-1), PennyRates.NO);
        due("station 16", x.suit(16), PennyRates.NO);
        due("nothing", x.suit(3), 0);
        x.rate(0, 0, 3, 4, 5, 0, 0);
        x.rate(0, 0, 4, 3, 5, 0, 0);
        x.truck(0, 0, 2, 11, 0);
        x.truck(0, 0, 2, 10, 0);
        x.truck(0, 0, 2, 9, 0);
        x.truck(0, 1, 2, 500, 0);
        x.truck(1, 0, 2, 17, 0);
        due("one too much", x.suit(3), 1);
        due("from the other", x.suit(4), 7);
        x.pass(365);
        due("365 days are no more than back", x.suit(4), 7);
        Check.law(x, -1, 365, "gain 999");
        due("and gain for a year, cut", x.suit(4), 7 + 6);
        due("cut to none", x.suit(3), 1);
        x.pass(1);
        due("366 days are", x.suit(4), 0);
        Check.law(x, -1, 0, "back 0");
        due("the law of today is the greatest day's", x.suit(4), 0);
        Check.law(x, -1, 366, "back 9999;gain 999");
        due("back again", x.suit(4), 13);
        x.pass(363);
        due("729 days: one whole year", x.suit(4), 13);
        x.pass(1);
        due("730 days: two, cut once", x.suit(4), 7 + 13);
        x.truck(1, 0, 2, 110, 365);
        due("364 and 365 days are not alike", x.suit(4), 7 + 13 + 100 + 99);
        x.truck(1, 0, 2, 110, 366);
        due("no whole year", x.suit(4), 7 + 13 + 100 + 99 + 100);
        Check.law(x, -1, 730, "back 364");
        due("just one is not too far back", x.suit(4), 100);
        x.rate(0, 0, 3, 4, 0, 730, 0);
        x.truck(2, 0, 2, 5, 730);
        due("a due of nothing", x.suit(3), 5);
    }

    private static void suitLimits() {
        PennyRates x = new PennyRates();
        x.rate(0, 0, 3, 4, 0, 0, 0);
        for (int k = 0; k < 80; k++) {
            x.truck(0, 0, 1, 99999, 0);
        }
        for (int k = 0; k < 24; k++) {
            x.pass(400);
        }
        x.pass(399);
        Check.law(x, -1, 0, "gain 9999;back 9999");
        long gained = 99999L * 9999 * 27 / 1000;
        due("more than an int", x.suit(3), 80 * (99999 + gained));
        Check.law(x, 0, 0, "gain 0;back 0");
        due("an owner's law is not the court's", x.suit(3), 80 * (99999 + gained));
        Check.law(x, -1, 0, "gain 9999;back 9998");
        due("one day too far back", x.suit(3), 0);
    }

    private static void cheapRefusals() {
        PennyRates x = new PennyRates();
        due("from -1", x.cheap(-1, 0, 0, 1, 0, 0), -1);
        due("to 16", x.cheap(0, 16, 0, 1, 0, 0), -1);
        due("good 20", x.cheap(0, 1, 20, 1, 0, 0), -1);
        for (int what : new int[] {-1, 2, 9, Integer.MIN_VALUE}) {
            due("what " + what, x.cheap(0, 1, 0, 1, 0, what), -1);
        }
        due("NONE ahead of BAD", x.cheap(1, 1, 0, 0, -1, 5), -1);
        due("one station", x.cheap(1, 1, 0, 1, 0, 0), -2);
        due("tons 0", x.cheap(0, 1, 0, 0, 0, 0), -2);
        due("tons 100", x.cheap(0, 1, 0, 100, 0, 0), -2);
        due("day -1", x.cheap(0, 1, 0, 1, -1, 0), -2);
        due("day 10000", x.cheap(0, 1, 0, 1, 10000, 0), -2);
        due("none", x.cheap(0, 1, 0, 1, 0, 0), -3);
        due("none, asked for a rate", x.cheap(0, 1, 0, 1, 0, 10), -3);
        x.rate(0, 0, 0, 1, 5, 0, 0);
        due("the sum", x.cheap(0, 1, 10, 7, 0, 0), 35);
        due("how many", x.cheap(0, 1, 10, 7, 0, 1), 1);
        due("rate 0", x.cheap(0, 1, 10, 7, 0, 10), 0);
        due("no rate 1", x.cheap(0, 1, 10, 7, 0, 11), -1);
        due("no rate so far", x.cheap(0, 1, 10, 7, 0, Integer.MAX_VALUE), -1);
        due("BAD ahead of no rate 1", x.cheap(0, 1, 10, 0, 0, 11), -2);
        due("not the other way", x.cheap(1, 0, 10, 7, 0, 0), -3);
    }

    private static void cheapTies() {
        PennyRates x = new PennyRates();
        x.rate(0, 0, 2, 3, 5, 0, 0);
        x.rate(0, 0, 1, 3, 5, 0, 0);
        x.rate(0, 0, 0, 2, 5, 0, 0);
        x.rate(0, 0, 0, 1, 5, 0, 0);
        due("the least numbers from the first on", x.cheap(0, 3, 0, 1, 0, 10), 2);
        due("then", x.cheap(0, 3, 0, 1, 0, 11), 0);
        x.rate(0, 0, 1, 0, 0, 0, 0);
        x.rate(0, 0, 0, 1, 5, 0, 0);
        due("from one between", x.cheap(1, 2, 0, 1, 0, 1), 2);
        x.rate(0, 0, 0, 3, 10, 0, 0);
        due("the fewest rates", x.cheap(0, 3, 0, 1, 0, 1), 1);
        due("it", x.cheap(0, 3, 0, 1, 0, 10), 6);
        x.rate(0, 0, 0, 3, 10, 0, 0);
        due("the least of like ones", x.cheap(0, 3, 0, 1, 0, 10), 6);
        x.rate(0, 0, 0, 3, 9, 5, 0);
        due("one not in print", x.cheap(0, 3, 0, 1, 4, 0), 10);
        due("one in print", x.cheap(0, 3, 0, 1, 5, 10), 8);
        x.special(0, 0, 3, 1, 0, 3);
        due("too few tons", x.cheap(0, 3, 0, 2, 0, 0), 20);
        due("enough tons", x.cheap(0, 3, 0, 3, 0, 0), 3);
        Check.law(x, 0, 0, "term 100");
        due("term for each", x.cheap(2, 3, 0, 1, 0, 0), 105);
    }

    private static void cheapLegs() {
        PennyRates x = new PennyRates();
        for (int s = 0; s < 10; s++) {
            x.rate(0, 0, s, s + 1, 1, 0, 0);
        }
        due("eight", x.cheap(0, 8, 0, 1, 0, 0), 8);
        due("eight, how many", x.cheap(0, 8, 0, 1, 0, 1), 8);
        due("eight, the last", x.cheap(0, 8, 0, 1, 0, 17), 7);
        due("eight, no ninth", x.cheap(0, 8, 0, 1, 0, 18), -1);
        due("nine are too many", x.cheap(0, 9, 0, 1, 0, 0), -3);
        x.rate(0, 0, 0, 9, 5000, 0, 0);
        due("nine would be cheaper", x.cheap(0, 9, 0, 1, 0, 0), 5000);
        x.rate(0, 0, 3, 5, 50, 0, 0);
        due("one, where others need more", x.cheap(7, 8, 0, 1, 0, 1), 1);
        due("it", x.cheap(7, 8, 0, 1, 0, 10), 7);
        due("no second", x.cheap(7, 8, 0, 1, 0, 11), -1);
        due("two", x.cheap(6, 8, 0, 1, 0, 1), 2);
        due("eight with a dear one", x.cheap(0, 9, 0, 1, 0, 0), 7 + 50);
        due("its fourth", x.cheap(0, 9, 0, 1, 0, 13), 11);
        due("its fifth", x.cheap(0, 9, 0, 1, 0, 14), 5);
        // Charges of nothing: going round costs nothing, but the fewest rates count.
        PennyRates y = new PennyRates();
        y.rate(0, 0, 0, 1, 0, 0, 0);
        y.rate(0, 0, 1, 0, 0, 0, 0);
        y.rate(0, 0, 1, 2, 0, 0, 0);
        due("for nothing", y.cheap(0, 2, 0, 1, 0, 0), 0);
        due("by two", y.cheap(0, 2, 0, 1, 0, 1), 2);
        due("first", y.cheap(0, 2, 0, 1, 0, 10), 0);
        due("second", y.cheap(0, 2, 0, 1, 0, 11), 2);
    }

    private static void cry() {
        PennyRates x = new PennyRates();
        due("station 16", x.cry(16, 0, 0, 1, 0), -1);
        due("to -1", x.cry(0, -1, 0, 1, 0), -1);
        due("good 20", x.cry(0, 1, 20, 1, 0), -1);
        due("NONE ahead of BAD", x.cry(1, 1, 20, 1, 0), -1);
        due("one station", x.cry(1, 1, 0, 1, 0), -2);
        due("tons 0", x.cry(0, 1, 0, 0, 0), -2);
        due("day 10000", x.cry(0, 1, 0, 1, 10000), -2);
        due("no way, no cheap", x.cry(0, 9, 0, 1, 0), -3);
        x.line(0, 9, 0, 10);
        due("no cheap", x.cry(0, 9, 0, 1, 0), -3);
        x.rate(0, 0, 0, 9, 50, 0, 0);
        x.rate(0, 0, 8, 9, 1, 0, 0);
        due("no way", x.cry(8, 9, 0, 1, 0), -3);
        due("one without a way is not farther", x.cry(0, 9, 0, 1, 0), 0);
        x.line(1, 8, 0, 1);
        due("one farther and cheaper", x.cry(0, 9, 0, 1, 0), 1);
        due("the farther one", x.cry(8, 9, 0, 1, 0), 0);
        x.line(1, 7, 8, 1);
        x.rate(0, 0, 7, 9, 50, 0, 0);
        due("as dear is not cheaper", x.cry(0, 9, 0, 1, 0), 1);
        x.line(1, 6, 9, 10);
        x.rate(0, 0, 6, 9, 0, 0, 0);
        due("as far is not farther", x.cry(0, 9, 0, 1, 0), 1);
        x.rate(0, 0, 7, 8, 48, 5, 0);
        due("a day ahead", x.cry(0, 9, 0, 1, 4), 1);
        due("by two rates", x.cry(0, 9, 0, 1, 5), 2);
        x.line(1, 5, 7, 1);
        due("one without a charge is not cheaper", x.cry(0, 9, 0, 1, 5), 2);
        due("no rates for this good", x.cry(0, 9, 1, 1, 5), -3);
        PennyRates y = new PennyRates();
        y.line(0, 3, 2, 5);
        y.line(0, 2, 0, 5);
        y.rate(0, 0, 2, 3, 1, 0, 0);
        y.rate(0, 0, 0, 3, 0, 0, 0);
        due("station 0 for nothing", y.cry(2, 3, 0, 1, 0), 1);
        due("than nothing none is cheaper", y.cry(0, 3, 0, 1, 0), 0);
    }
}
