/** Promises 6 to 8: feed, law, holds. */
public final class LawsTest {
    private static final Check CHECK = new Check("LawsTest");

    private static void due(String call, long got, long want) {
        CHECK.due(call, got, want);
    }

    public static void main(String[] args) {
        feed();
        law();
        goodTexts();
        faultsOfWords();
        faultsOfNumbers();
        faultsOfExpressions();
        holds();
        whichLaw();
        lastCounts();
        usual();
        CHECK.end();
    }

    private static void feed() {
        PennyRates x = new PennyRates();
        due("n -1", x.feed(0, -1), -2);
        due("n 5", x.feed(0, 5), -2);
        due("n 0", x.feed(77, 0), 0);
        due("mile", x.feed(0x6d696c65, 4), 4);
        due("s of a longer number", x.feed(0x41424373, 1), 5);
        due("law of miles", x.law(0, 0), 0);
        due("miles", x.holds(0, 0, 6), 1);
        due("ev", x.feed(0x7a7a6576, 2), 2);
        due("en", x.feed(0x656e, 2), 4);
        due("law of even", x.law(0, 0), 1);
        due("even", x.holds(0, 0, 6), 0);
        for (int k = 1; k <= 46; k++) {
            due("three bytes", x.feed(0x78797a, 3), 3 * k);
        }
        due("138 and 3", x.feed(0, 3), -4);
        due("BAD ahead of FULL", x.feed(0, 5), -2);
        due("138 and 2", x.feed(0, 2), 140);
        due("140 and 1", x.feed(0, 1), -4);
        due("140 and 0", x.feed(0, 0), 140);
        due("counted", x.count(7), 140);
    }

    private static void law() {
        PennyRates x = new PennyRates();
        Check.feed(x, "term 5");
        due("owner -2", x.law(-2, 0), -1);
        due("owner 6", x.law(6, 0), -1);
        due("NONE ahead of BAD", x.law(6, -1), -1);
        due("day -1", x.law(0, -1), -2);
        due("day 10000", x.law(0, 10000), -2);
        due("the text stays", x.count(7), 6);
        due("a law", x.law(0, 9999), 0);
        due("the text is gone", x.count(7), 0);
        due("an empty text", x.law(0, 0), -10);
        Check.feed(x, "term");
        due("a fault", x.law(0, 0), -14);
        due("a fault empties the text", x.count(7), 0);
        due("a fault makes no law", x.count(2), 1);
        Check.feed(x, "te");
        due("bytes of the last text are gone", x.law(0, 0), -12);
        x.pass(100);
        due("of a day that is past", Check.law(x, 0, 3, "term 1"), 1);
        for (int k = 2; k < 16; k++) {
            due("law " + k, Check.law(x, -1, 0, "even"), k);
        }
        Check.feed(x, "tern");
        due("FULL ahead of the fault", x.law(0, 0), -4);
        due("the text stays with FULL", x.count(7), 4);
        due("NONE ahead of FULL", x.law(-3, 0), -1);
        due("BAD ahead of FULL", x.law(0, 10000), -2);
    }

    private static void fine(String text) {
        due("'" + text + "'", Check.law(new PennyRates(), -1, 0, text), 0);
    }

    private static void fault(String text, int place) {
        due("'" + text + "'", Check.law(new PennyRates(), -1, 0, text), -10 - place);
    }

    private static void goodTexts() {
        fine("good 0 0");
        fine("good 1 9");
        fine("good 9 9");
        fine("good 10 0");
        fine("good 19 5");
        fine("most 0 0");
        fine("most 9 9999");
        fine("term 0");
        fine("term 0000");
        fine("small 07;notice 9999;back 1;gain 12;miles;even");
        fine("even;even;even;even;even;even;even;even;even;even");
        fine("same g=1234&c=0|o=5&!t<0000|t>9&(d<1|d>2)&b|x");
        fine("excuse !!!!!x");
        fine("excuse (((((x)))))");
        fine("excuse !(!(!x))");
        fine("excuse (((((x)))))&(((((b)))))|!!!!(x)");
        fine("same (!(!(x)&(x)&((x))))");
        fine("same x;excuse b;same b");
        fine("same g=0001");
        StringBuilder longest = new StringBuilder("even;");
        longest.append("same x");
        while (longest.length() + 2 <= 139) {
            longest.append("|b");
        }
        fine(longest.toString());
        fault(longest + "|", longest.length() + 1);
    }

    private static void faultsOfWords() {
        fault("", 0);
        fault(" even", 0);
        fault("Even", 0);
        fault("z", 0);
        fault("g", 1);
        fault("gx", 1);
        fault("go", 2);
        fault("gool", 3);
        fault("good", 4);
        fault("good;", 4);
        fault("ga", 2);
        fault("gaim", 3);
        fault("gain", 4);
        fault("m", 1);
        fault("ma", 1);
        fault("mist", 2);
        fault("mil", 3);
        fault("mot", 2);
        fault("s", 1);
        fault("sn", 1);
        fault("smal", 4);
        fault("smalk", 4);
        fault("sa", 2);
        fault("samp", 3);
        fault("same", 4);
        fault("e", 1);
        fault("ea", 1);
        fault("eve", 3);
        fault("ex", 2);
        fault("excuss", 5);
        fault("excuse", 6);
        fault("excuse ", 7);
        fault("terms", 4);
        fault("bacon", 3);
        fault("notices", 6);
        fault("even ", 4);
        fault("evenx", 4);
        fault("miles;", 6);
        fault("miles;;even", 6);
        fault("miles; even", 6);
        fault("miles even", 5);
        fault("even;even;even;even;even;even;even;even;even;even;even", 49);
        fault("even;even;even;even;even;even;even;even;even;even;", 49);
        fault("even;even;even;even;even;even;even;even;even;evex", 48);
        fault("\u00e5ven", 0);
        fault("ev\u00e5n", 2);
        fault("eve\0", 3);
    }

    private static void faultsOfNumbers() {
        fault("good ", 5);
        fault("good  1 1", 5);
        fault("good x", 5);
        fault("good 1", 6);
        fault("good 1;", 6);
        fault("good 12", 7);
        fault("good 12 ", 8);
        fault("good 12 x", 8);
        fault("good 12 33", 9);
        fault("good 123 3", 7);
        fault("good 01 3", 6);
        fault("good 00 3", 6);
        fault("good 20 3", 6);
        fault("good 99 3", 6);
        fault("good 205 3", 6);
        fault("good 1 3 ", 8);
        fault("most 10 3", 6);
        fault("most", 4);
        fault("most;even", 4);
        fault("most;", 4);
        fault("most x", 5);
        fault("most 1", 6);
        fault("most 1 ", 7);
        fault("most 1 12345", 11);
        fault("most 1 5 ", 8);
        fault("term -1", 5);
        fault("term 12345", 9);
        fault("term 123456", 9);
        fault("term 00000", 9);
        fault("term 1x", 6);
        fault("term 1 ", 6);
        fault("term  1", 5);
        fault("term;", 4);
        fault("back 1;gain 1;", 14);
    }

    private static void faultsOfExpressions() {
        fault("same  x", 5);
        fault("same x ", 6);
        fault("same x x", 6);
        fault("same y", 5);
        fault("same 5", 5);
        fault("same g5", 6);
        fault("same c5", 6);
        fault("same o5", 6);
        fault("same t5", 6);
        fault("same d5", 6);
        fault("same g", 6);
        fault("same g<1", 6);
        fault("same g=", 7);
        fault("same g=x", 7);
        fault("same g=12345", 11);
        fault("same c>1", 6);
        fault("same o<1", 6);
        fault("same t=1", 6);
        fault("same t< 1", 7);
        fault("same d=1", 6);
        fault("same d>", 7);
        fault("same x|", 7);
        fault("same x||b", 7);
        fault("same x&", 7);
        fault("same x&|b", 7);
        fault("same |b", 5);
        fault("same !", 6);
        fault("same !|", 6);
        fault("same (", 6);
        fault("same ()", 6);
        fault("same (x", 7);
        fault("same (x;even", 7);
        fault("same (x&)", 8);
        fault("same x)", 6);
        fault("same (x))", 8);
        fault("same xb", 6);
        fault("same x!b", 6);
        fault("same x(b)", 6);
        fault("same ((((((x))))))", 10);
        fault("same !!!!!!x", 10);
        fault("same (!(!(!x)))", 10);
        fault("same (!(!(x)&(x)&(((x)))))", 19);
        fault("same (((((x)))))|((((((x", 22);
        fault("same x|!(!(!(!x", 12);
    }

    private static void holds() {
        PennyRates x = new PennyRates();
        due("owner -2", x.holds(-2, 0, 0), -5);
        due("owner 6", x.holds(6, 0, 0), -5);
        due("day -1", x.holds(0, -1, 1), -5);
        due("day 10000", x.holds(0, 10000, 1), -5);
        for (int what : new int[] {-1, 7, 8, 9, 40, Integer.MAX_VALUE, Integer.MIN_VALUE}) {
            due("what " + what, x.holds(0, 0, what), -5);
        }
        Check.law(x, -1, 10, "term 3;small 200;notice 5;back 6;gain 7;miles;most 4 44;good 17 0;good 2 9");
        Check.law(x, 2, 20, "term 0004;even;most 4 55;good 2 1");
        due("court ahead", x.holds(-1, 9, 0), -1);
        due("court", x.holds(-1, 10, 0), 0);
        due("owner 2 ahead", x.holds(2, 19, 0), -1);
        due("owner 2", x.holds(2, 20, 0), 1);
        due("owner 2 at the end", x.holds(2, 9999, 0), 1);
        due("owner 1 has none of its own", x.holds(1, 20, 0), -1);
        due("owner 1 as the court", x.holds(1, 20, 1), 3);
        due("owner 2 as the court till then", x.holds(2, 19, 1), 3);
        due("owner 2 term", x.holds(2, 20, 1), 4);
        due("owner 2 small", x.holds(2, 20, 2), 200);
        due("owner 2 notice", x.holds(2, 20, 3), 5);
        due("owner 2 back", x.holds(2, 20, 4), 6);
        due("owner 2 gain", x.holds(2, 20, 5), 7);
        due("owner 2 even", x.holds(2, 20, 6), 0);
        due("court miles", x.holds(-1, 20, 6), 1);
        due("owner 2 most", x.holds(2, 20, 14), 55);
        due("owner 3 most", x.holds(3, 20, 14), 44);
        due("owner 2 most of another", x.holds(2, 20, 15), 9999);
        due("owner 2 class", x.holds(2, 20, 22), 1);
        due("owner 2 class as the court", x.holds(2, 20, 37), 0);
        due("court class", x.holds(-1, 20, 22), 9);
        due("an owner's is not the court's", x.holds(-1, 20, 1), 3);
    }

    private static void whichLaw() {
        PennyRates x = new PennyRates();
        Check.law(x, 0, 50, "term 1");
        Check.law(x, 0, 30, "term 2");
        Check.law(x, 0, 30, "term 3");
        Check.law(x, 0, 60, "small 9");
        due("ahead of all", x.holds(0, 29, 1), 0);
        due("of like days the latest", x.holds(0, 30, 1), 3);
        due("its number", x.holds(0, 49, 0), 2);
        due("the greatest day", x.holds(0, 50, 1), 1);
        due("one law at a time", x.holds(0, 60, 1), 0);
        due("and what it has", x.holds(0, 60, 2), 9);
        Check.law(x, -1, 55, "term 7");
        due("what it has not is the court's", x.holds(0, 60, 1), 7);
        due("what it has is its own", x.holds(0, 55, 1), 1);
        Check.law(x, 0, 55, "gain 7");
        due("a new one is heard at once", x.holds(0, 55, 1), 7);
        PennyRates y = new PennyRates();
        for (int owner = -1; owner < 6; owner++) {
            Check.law(y, owner, 100, "term 5");
        }
        for (int owner = -1; owner < 6; owner++) {
            due("then", y.holds(owner, 100, 1), 5);
            due("ahead, asked behind that", y.holds(owner, 99, 1), 0);
        }
    }

    private static void lastCounts() {
        PennyRates x = new PennyRates();
        Check.law(x, -1, 0, "term 1;miles;term 2;good 3 1;good 3 2;good 13 8;most 1 5;most 1 6;even");
        due("term", x.holds(-1, 0, 1), 2);
        due("miles, even", x.holds(-1, 0, 6), 0);
        due("goods of 1 and two figures are apart", x.holds(-1, 0, 21), 1);
        due("good", x.holds(-1, 0, 23), 2);
        due("another good", x.holds(-1, 0, 33), 8);
        due("most", x.holds(-1, 0, 11), 6);
        Check.law(x, -1, 0, "even;miles");
        due("even, miles", x.holds(-1, 0, 6), 1);
        for (int good = 0; good < 20; good++) {
            PennyRates y = new PennyRates();
            Check.law(y, -1, 0, "good " + good + " " + (good + 5) % 10);
            for (int g = 0; g < 20; g++) {
                due("class of " + g, y.holds(-1, 0, 20 + g), g == good ? (g + 5) % 10 : g % 10);
            }
        }
    }

    private static void usual() {
        PennyRates x = new PennyRates();
        for (int owner = -1; owner < 6; owner++) {
            due("law", x.holds(owner, 0, 0), -1);
            due("term", x.holds(owner, 0, 1), 0);
            due("small", x.holds(owner, 0, 2), 1);
            due("notice", x.holds(owner, 0, 3), 0);
            due("back", x.holds(owner, 0, 4), 365);
            due("gain", x.holds(owner, 0, 5), 0);
            due("even", x.holds(owner, 0, 6), 0);
            for (int c = 0; c < 10; c++) {
                due("most " + c, x.holds(owner, 9999, 10 + c), 9999);
            }
            for (int g = 0; g < 20; g++) {
                due("class of " + g, x.holds(owner, 9999, 20 + g), g % 10);
            }
        }
    }
}
