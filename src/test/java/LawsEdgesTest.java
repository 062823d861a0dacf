/**
 * Edges of terms 2 and promises 6 to 8, a method for each sentence, which stands above it.
 * What is refused for its numbers alone is in RefusalsTest; faults of all sorts are in LawsTest too.
 */
public final class LawsEdgesTest {
    private static final Check CHECK = new Check("LawsEdgesTest");
    private static final String[] WORDS = {"term", "small", "notice", "back", "gain"};

    private static void due(String call, long got, long want) {
        CHECK.due(call, got, want);
    }

    public static void main(String[] args) {
        lowestBytes();
        behindTheTexts();
        fedFull();
        lawsAsTheyCome();
        theTextStays();
        theTextIsEmptyThen();
        inForceFromADay();
        greatestDay();
        longestText();
        tenClauses();
        numbersOfFourDigits();
        goodOfOneOrTwo();
        classOfOneFigure();
        oneBlank();
        tests();
        withinFive();
        tooEarly();
        tooGreat();
        spoiltAnywhere();
        theLastCounts();
        factorsTermsExpressions();
        noneOfTheTextAhead();
        manyLongTexts();
        asTheCourtHasIt();
        withoutThat();
        holdsNoneSuch();
        CHECK.end();
    }

    private static void fine(String text) {
        due("'" + text + "'", Check.law(new PennyRates(), -1, 0, text), 0);
    }

    private static void fault(String text, int place) {
        due("'" + text + "'", Check.law(new PennyRates(), -1, 0, text), -10 - place);
    }

    /** What holds for the court by this text alone. */
    private static void told(String text, int what, int want) {
        PennyRates x = new PennyRates();
        due("'" + text + "'", Check.law(x, -1, 0, text), 0);
        due("'" + text + "' what " + what, x.holds(-1, 0, what), want);
    }

    /** "The n lowest bytes of a number, the highest first (n 0 .. 4)" */
    private static void lowestBytes() {
        int[][] parts = {{0x6d696c65, 4, 0x73, 1}, {0x7a6d696c, 3, 0x6573, 2}, {0xffff6d69, 2, 0xff6c6573, 3},
            {0xffffff6d, 1, 0x696c6573, 4}};
        for (int[] part : parts) {
            PennyRates x = new PennyRates();
            due("n " + part[1], x.feed(part[0], part[1]), part[1]);
            due("n 0", x.feed(0x78787878, 0), part[1]);
            due("n " + part[3], x.feed(part[2], part[3]), 5);
            due("it says miles", x.law(0, 0), 0);
            due("miles", x.holds(0, 0, 6), 1);
        }
        PennyRates x = new PennyRates();
        x.feed(0x65766500, 4);
        due("a byte 0 is a byte", x.feed('n', 1), 5);
        due("and a fault", x.law(0, 0), -13);
        x.feed(0xe5766565, 4);
        due("e5 is not 65", x.law(0, 0), -10);
    }

    /** "come behind THE TEXT's: how many it has. BAD; FULL." What is refused leaves the text as it was. */
    private static void behindTheTexts() {
        PennyRates x = new PennyRates();
        x.feed(0x657665, 3);
        due("BAD", x.feed('x', 5), -2);
        due("BAD below", x.feed('x', -1), -2);
        due("three still", x.count(7), 3);
        due("behind these", x.feed('n', 1), 4);
        due("even", x.law(3, 0), 0);
    }

    /** "THE TEXT (bytes, 140 at most)" and "FULL" */
    private static void fedFull() {
        for (int n = 1; n <= 4; n++) {
            PennyRates x = new PennyRates();
            Check.feed(x, longText(140 - n));
            due("just room for " + n, x.feed(0x7c627c62, n), 140);
            due("none for one more", x.feed('b', 1), -4);
            due("for none there is", x.feed('b', 0), 140);
            due("BAD ahead of FULL", x.feed('b', 5), -2);
            PennyRates y = new PennyRates();
            Check.feed(y, longText(141 - n));
            due("no room for " + n, y.feed(0x7c627c62, n), -4);
            due("none of them came", y.count(7), 141 - n);
            due("the text is good still, or ends too early", y.law(0, 0), n % 2 == 0 ? -10 - 141 + n : 0);
        }
    }

    /** 'same b|b|..' of so many bytes. It ends too early if these are an odd number. */
    private static String longText(int bytes) {
        StringBuilder s = new StringBuilder("same b");
        while (s.length() < bytes) {
            s.append(s.length() % 2 == 0 ? '|' : 'b');
        }
        return s.toString();
    }

    /** "LAWS 0 .. 15, as they come" and "FULL" */
    private static void lawsAsTheyCome() {
        PennyRates x = new PennyRates();
        for (int k = 0; k < 16; k++) {
            due("fifteen are not full", x.count(2), k);
            due("a fault takes no number", Check.law(x, k % 7 - 1, k, "term"), -14);
            due("law " + k, Check.law(x, k % 7 - 1, k, "term " + k), k);
        }
        due("FULL", Check.law(x, -1, 0, "even"), -4);
        due("sixteen", x.count(2), 16);
        due("the last is in force", x.holds(0, 9999, 0), 15);
        due("it says so", x.holds(0, 9999, 1), 15);
    }

    /** "(THE TEXT stays with these, which are ahead of the FAULT)" */
    private static void theTextStays() {
        PennyRates x = new PennyRates();
        Check.feed(x, "term 5");
        due("NONE", x.law(6, 0), -1);
        due("BAD", x.law(5, 10000), -2);
        due("BAD below", x.law(5, -1), -2);
        due("six bytes still", x.count(7), 6);
        due("they say it still", x.law(5, 9999), 0);
        due("term 5", x.holds(5, 9999, 1), 5);
        Check.feed(x, "term;");
        due("NONE ahead of the fault", x.law(-2, 0), -1);
        due("BAD ahead of the fault", x.law(-1, 10000), -2);
        due("the fault then", x.law(-1, 0), -14);
        for (int k = 1; k < 16; k++) {
            Check.law(x, -1, 0, "even");
        }
        Check.feed(x, "term;");
        due("FULL ahead of the fault", x.law(-1, 0), -4);
        due("FULL again", x.law(-1, 0), -4);
        due("five bytes still", x.count(7), 5);
        due("more may come", x.feed('x', 1), 6);
        PennyRates y = new PennyRates();
        for (int k = 0; k < 16; k++) {
            Check.law(y, -1, 0, "even");
        }
        due("FULL ahead of the fault of an empty text", y.law(-1, 0), -4);
    }

    /** "THE TEXT, which is empty then, is a LAW .. : its number; -10 less the FAULT." */
    private static void theTextIsEmptyThen() {
        PennyRates x = new PennyRates();
        due("a law", Check.law(x, 0, 0, "miles"), 0);
        due("empty behind a law", x.count(7), 0);
        due("so it is no law again", x.law(0, 0), -10);
        due("a fault", Check.law(x, 0, 0, "mile"), -14);
        due("empty behind a fault", x.count(7), 0);
        due("an s is none of it", Check.law(x, 0, 0, "s"), -11);
        due("room for all again", feedAll(x), 140);
        due("the fault at the end of all", x.law(0, 0), -150);
        due("empty again", x.count(7), 0);
        due("one law", x.count(2), 1);
    }

    private static int feedAll(PennyRates x) {
        Check.feed(x, "even;" + longText(135));
        return x.count(7);
    }

    /** "in force from a DAY on" */
    private static void inForceFromADay() {
        PennyRates x = new PennyRates();
        Check.law(x, -1, 0, "term 1");
        Check.law(x, 5, 9999, "term 2");
        Check.law(x, 0, 7, "term 3");
        due("the court's from 0 on", x.holds(-1, 0, 0), 0);
        due("to the end", x.holds(-1, 9999, 1), 1);
        due("owner 5's not on the last day but one", x.holds(5, 9998, 0), -1);
        due("it is as the court's then", x.holds(5, 9998, 1), 1);
        due("owner 5's on the last day", x.holds(5, 9999, 0), 1);
        due("it says so", x.holds(5, 9999, 1), 2);
        due("owner 0's on day 6", x.holds(0, 6, 1), 1);
        due("owner 0's on day 7", x.holds(0, 7, 1), 3);
        due("owner 1 has none", x.holds(1, 9999, 0), -1);
        x.pass(100);
        due("a day that is past will do", Check.law(x, 4, 0, "term 8"), 3);
        due("it is in force then", x.holds(4, 0, 1), 8);
    }

    /** "of those in force by then that with the greatest such DAY, of several the latest" */
    private static void greatestDay() {
        PennyRates x = new PennyRates();
        Check.law(x, 2, 10, "term 10");
        Check.law(x, 2, 11, "term 11");
        Check.law(x, 2, 9, "term 9");
        due("day 8", x.holds(2, 8, 0), -1);
        due("day 9", x.holds(2, 9, 0), 2);
        due("day 10", x.holds(2, 10, 0), 0);
        due("day 11", x.holds(2, 11, 0), 1);
        due("day 12", x.holds(2, 12, 0), 1);
        Check.law(x, 2, 10, "term 100");
        due("the latest of day 10", x.holds(2, 10, 1), 100);
        due("day 11 as before", x.holds(2, 11, 1), 11);
        Check.law(x, 3, 10, "term 7");
        due("another owner's is none of its", x.holds(2, 10, 1), 100);
        Check.law(x, -1, 10, "term 6");
        due("nor is the court's", x.holds(2, 10, 0), 3);
        due("the court's own", x.holds(-1, 10, 0), 5);
    }

    /** "THE TEXT (bytes, 140 at most)": one of 140 is read to its end. */
    private static void longestText() {
        PennyRates x = new PennyRates();
        x.rate(0, 0, 0, 1, 5, 0, 0);
        x.truck(0, 0, 1, 1, 0);
        x.truck(0, 0, 1, 1, 0);
        StringBuilder s = new StringBuilder("even;same b");
        while (s.length() < 139) {
            s.append("|b");
        }
        s.setCharAt(138, 'x');
        due("139 bytes", s.length(), 139);
        due("of 139 bytes", Check.law(x, -1, 0, s.toString()), 0);
        due("its last byte is heard", x.unlike(0, 1, 0), 1);
        String whole = "term 1234;back 1234;gain 1234;small 1234;most 1 1234;most 2 1234;most 3 1234;most 4 1234;"
            + "most 5 1234;same g=0000&o=0000&c=0000&t<0002&b|!b";
        due("140 bytes", whole.length() + 2, 140);
        due("of 140 bytes", Check.law(x, -1, 0, whole + "&x"), 1);
        due("it holds", x.unlike(0, 1, 0), 1);
        due("so does its first", x.holds(-1, 0, 1), 1234);
        due("140 bytes that end too early", Check.law(x, -1, 0, whole + "|!"), -150);
    }

    /** "CLAUSES, 10 at most, with ; between" */
    private static void tenClauses() {
        String nine = "term 1;small 2;notice 3;back 4;gain 5;miles;most 6 7;good 8 9;same x";
        fine(nine);
        fine(nine + ";excuse b");
        told(nine + ";term 9", 1, 9);
        fault(nine + ";excuse b;even", nine.length() + 9);
        fault(nine + ";excuse b;", nine.length() + 9);
        fault(nine + ";excuse b|b;even", nine.length() + 11);
        fault(nine + ";", nine.length() + 1);
        fault(nine + ";;even", nine.length() + 1);
        fault(";even", 0);
        fault(";", 0);
        fault("even;", 5);
        fault("even,even", 4);
        fault("", 0);
    }

    /** "Numbers: 1 to 4 digits": of each word, and of each test. */
    private static void numbersOfFourDigits() {
        for (int k = 0; k < WORDS.length; k++) {
            String word = WORDS[k];
            int at = word.length() + 1;
            told(word + " 0", k + 1, 0);
            told(word + " 9", k + 1, 9);
            told(word + " 10", k + 1, 10);
            told(word + " 999", k + 1, 999);
            told(word + " 9999", k + 1, 9999);
            told(word + " 0000", k + 1, 0);
            told(word + " 0012", k + 1, 12);
            fault(word + " 10000", at + 4);
            fault(word + " 00001", at + 4);
            fault(word + " ", at);
            fault(word + " ;", at);
            fault(word + " -1", at);
            fault(word + " +1", at);
            fault(word + " /", at);
            fault(word + " :", at);
            fault(word + " 1/", at + 1);
            fault(word + " 1:", at + 1);
        }
        for (int c = 0; c < 10; c++) {
            told("most " + c + " 0", 10 + c, 0);
            told("most " + c + " 9999", 10 + c, 9999);
            told("most " + c + " 0007", 10 + c, 7);
            fault("most " + c + " 99999", 11);
            fault("most " + c + " ", 7);
        }
    }

    /** "g of good: 1 or 2, at most 19, without a 0 ahead of another" */
    private static void goodOfOneOrTwo() {
        for (int g = 0; g < 20; g++) {
            for (int c = 0; c < 10; c++) {
                told("good " + g + " " + c, 20 + g, c);
            }
        }
        for (int g = 20; g < 100; g++) {
            fault("good " + g + " 1", 6);
        }
        for (int g = 0; g < 10; g++) {
            fault("good 0" + g + " 1", 6);
            fault("good 1" + g + "0 1", 7);
        }
        fault("good ", 5);
        fault("good  1", 5);
    }

    /** "CLASS one figure" */
    private static void classOfOneFigure() {
        fault("good 3 10", 8);
        fault("good 3 00", 8);
        fault("good 13 10", 9);
        fault("good 3 ", 7);
        fault("good 3 x", 7);
        fault("most 10 5", 6);
        fault("most 00 5", 6);
        fault("most  5", 5);
        fault("most x 5", 5);
    }

    /** "One blank behind each word or number that has another one behind it in its CLAUSE; none else." */
    private static void oneBlank() {
        String[] texts = {"good 3 4", "good 13 4", "most 3 4", "term 5", "small 5", "notice 5", "back 5", "gain 5", "miles",
            "even", "same x", "excuse g=5"};
        for (String text : texts) {
            fine(text);
            fault(" " + text, 0);
            fault(text + " ", text.length());
            fault(text + " ;even", text.length());
            fault("even; " + text, 5);
            for (int at = text.indexOf(' '); at >= 0; at = text.indexOf(' ', at + 1)) {
                fault(text.substring(0, at) + " " + text.substring(at), at + 1);
                fault(text.substring(0, at) + "\t" + text.substring(at + 1), at);
            }
        }
        for (String text : new String[] {"good3 4", "most3 4", "term5", "small5", "notice5", "back5", "gain5", "samex"}) {
            int at = 0;
            while (Character.isLetter(text.charAt(at)) && !text.substring(0, at).equals("same")) {
                at++;
            }
            fault(text, at);
        }
        fault("good 34", 6);
        fault("most 34", 6);
        fault("same x |b", 6);
        fault("same x| b", 7);
        fault("same ( x)", 6);
        fault("same (x )", 7);
        fault("same ! x", 6);
        fault("same g =5", 6);
        fault("same g= 5", 7);
        fault("same g=5 &b", 8);
    }

    /** "a TEST: g=n, c=n, o=n .., t<n, t>n .., d<n, d>n .., b .., x" */
    private static void tests() {
        for (String test : new String[] {"g=", "c=", "o=", "t<", "t>", "d<", "d>"}) {
            for (String e : new String[] {"same ", "excuse ", "same !", "same (x)&", "excuse x|"}) {
                String closed = e + test;
                fine(closed + "0");
                fine(closed + "20");
                fine(closed + "9999");
                fine(closed + "0000");
                fault(closed + "00000", closed.length() + 4);
                fault(closed + "10000", closed.length() + 4);
                fault(closed, closed.length());
                fault(closed + "x", closed.length());
                fault(e + test.charAt(0), e.length() + 1);
                for (char sign : "=<>".toCharArray()) {
                    if ("t<t>d<d>g=c=o=".indexOf("" + test.charAt(0) + sign) < 0) {
                        fault(e + test.charAt(0) + sign + "1", e.length() + 1);
                    }
                }
            }
        }
        for (String test : new String[] {"b", "x"}) {
            fine("same " + test);
            fault("same " + test + "=1", 6);
            fault("same " + test + "1", 6);
            fault("same " + test + test, 6);
        }
        for (String test : new String[] {"a", "e", "f", "p", "y", "G", "B", "X", "5", "=", "<", ")", "&", "|", ";"}) {
            fault("same " + test, 5);
            fault("excuse x|" + test, 9);
            fault("same x&" + test, 7);
            fault("same !" + test, 6);
            fault("same (" + test, 6);
        }
    }

    /** "A ( or ! within 5 others is none." */
    private static void withinFive() {
        for (String word : new String[] {"same ", "excuse "}) {
            for (int kinds = 0; kinds < 64; kinds++) {
                StringBuilder open = new StringBuilder(word);
                StringBuilder close = new StringBuilder();
                for (int k = 0; k < 5; k++) {
                    boolean isBracket = (kinds >> k & 1) == 1;
                    open.append(isBracket ? '(' : '!');
                    close.append(isBracket ? ")" : "");
                }
                char sixth = kinds >= 32 ? '(' : '!';
                fine(open + "x" + close);
                fine(open + "x" + close + "&" + open.substring(word.length()) + "b" + close);
                fault(open.toString() + sixth + "x" + (sixth == '(' ? ")" : "") + close, open.length());
                fault(open.toString() + sixth, open.length());
            }
        }
        fault("same (((((x&b|!x)))))", 14);
        fault("same (((((x&b|(x))))))", 14);
        fine("same ((((!x&b|!x))))");
        fine("same (((((x))&!(x))))|!!!!!b&(((((x)))))");
        fault("same (((((x))&!((x)))))", 16);
        fault("same !!!!(x&!x)", 12);
        fine("same !!!!(x)&!x");
        fault("same x;excuse !!!!!!x", 19);
    }

    /** "(the end of THE TEXT, if it ends too early" */
    private static void tooEarly() {
        String[] texts = {"good 19 9", "most 9 9999", "term 5", "small 5", "notice 5", "back 5", "gain 5", "miles", "even",
            "same !(g=1&c=2|o=3)&t<4|t>5", "excuse d<6&d>7|b&!x", "even;miles"};
        for (String text : texts) {
            for (int end = 0; end <= text.length(); end++) {
                String part = text.substring(0, end);
                int fault = Model.fault(part);
                due("'" + part + "' ends too early or not", Check.law(new PennyRates(), 0, 0, part),
                    fault < 0 ? 0 : -10 - part.length());
            }
        }
    }

    /** "a number that is too great: its last figure)" */
    private static void tooGreat() {
        fault("good 20 1", 6);
        fault("good 29 1", 6);
        fault("good 99 1", 6);
        fault("good 20", 6);
        fault("even;good 20", 11);
        fine("good 19 1");
        fine("good 2 1");
        fault("term 99999", 9);
        fault("most 9 99999", 11);
    }

    /**
     * "The FAULT: the place of the first byte with which none begins so": each byte of good texts in turn is
     * another one, or gone, or comes twice, or another one comes ahead of it, and the model tells the place.
     */
    private static void spoiltAnywhere() {
        String[] texts = {"good 3 4;good 13 4", "most 5 67;miles", "term 1;small 22;notice 333", "back 4444;gain 0;even",
            "same g=1&c=22|o=333", "excuse !(t<4444|t>5)", "same d<1&!(d>2&(b|!x))", "excuse !!(!(!b)|x)&b"};
        String signs = "\0 !&()059:;<=>|abcdegilmnostuvxz\u007f\u00ff";
        for (String text : texts) {
            for (int at = 0; at < text.length(); at++) {
                String head = text.substring(0, at);
                String tail = text.substring(at + 1);
                asTheModel(head + tail);
                for (char sign : signs.toCharArray()) {
                    asTheModel(head + sign + tail);
                    asTheModel(head + sign + text.charAt(at) + tail);
                }
            }
        }
    }

    private static void asTheModel(String text) {
        int fault = Model.fault(text);
        due("'" + text + "'", Check.law(new PennyRates(), 0, 0, text), fault < 0 ? 0 : -10 - fault);
    }

    /** "Of clauses of one word (good with one GOOD, most with one CLASS) the last counts; miles, even: the last of both." */
    private static void theLastCounts() {
        for (int k = 0; k < WORDS.length; k++) {
            told(WORDS[k] + " 8;" + WORDS[k] + " 7", k + 1, 7);
            told(WORDS[k] + " 7;even;" + WORDS[k] + " 8;even", k + 1, 8);
            told(WORDS[k] + " 7;" + WORDS[k] + " 0", k + 1, 0);
        }
        told("good 1 2;good 11 3;good 1 4", 21, 4);
        told("good 1 2;good 11 3;good 1 4", 31, 3);
        told("good 11 3;good 1 4", 31, 3);
        told("most 1 2;most 2 3;most 1 4", 11, 4);
        told("most 1 2;most 2 3;most 1 4", 12, 3);
        told("miles;even", 6, 0);
        told("even;miles", 6, 1);
        told("miles;even;miles", 6, 1);
        told("even;miles;even", 6, 0);
        sameSays("same x;same b", 0);
        sameSays("same b;same x", 1);
        sameSays("same b;excuse b;same x;excuse x;even", 1);
        sameSays("same x;excuse x;same b;excuse b|x", 0);
    }

    /** Whether two trucks by a rate of one owner, that is no boat, are same by this text. */
    private static void sameSays(String text, int want) {
        PennyRates x = new PennyRates();
        x.rate(0, 0, 0, 1, 5, 0, 0);
        x.truck(0, 0, 1, 1, 0);
        x.truck(0, 0, 1, 1, 0);
        Check.law(x, -1, 0, text);
        due("'" + text + "'", x.unlike(0, 1, 0), want);
    }

    /** "E: T or T|E. T: F or F&T. F: !F, (E), or a TEST" */
    private static void factorsTermsExpressions() {
        String[] tests = {"b", "x"};
        for (String one : tests) {
            for (String two : tests) {
                for (String three : tests) {
                    // x holds, b doesn't.
                    boolean p = one.equals("x");
                    boolean q = two.equals("x");
                    boolean r = three.equals("x");
                    says(one + "&" + two, p && q);
                    says(one + "|" + two, p || q);
                    says("!" + one, !p);
                    says("!!" + one, p);
                    says("!" + one + "&" + two, !p && q);
                    says("!" + one + "|" + two, !p || q);
                    says(one + "&!" + two, p && !q);
                    says("!(" + one + "&" + two + ")", !(p && q));
                    says("!(" + one + "|" + two + ")", !(p || q));
                    says(one + "|" + two + "&" + three, p || q && r);
                    says(one + "&" + two + "|" + three, p && q || r);
                    says("(" + one + "|" + two + ")&" + three, (p || q) && r);
                    says(one + "&(" + two + "|" + three + ")", p && (q || r));
                    says(one + "&" + two + "&" + three, p && q && r);
                    says(one + "|" + two + "|" + three, p || q || r);
                    says("!(" + one + "|" + two + "&" + three + ")", !(p || q && r));
                    says("(((((" + one + "&" + two + "|" + three + ")))))", p && q || r);
                    says("(" + one + "&!(" + two + "|!" + three + "))|" + three + "&" + one, p && !(q || !r) || r && p);
                }
            }
        }
    }

    private static void says(String e, boolean want) {
        sameSays("same " + e, want ? 1 : 0);
        sameSays("excuse b;same " + e + ";excuse x", want ? 1 : 0);
    }

    /** "THE TEXT, which is empty then": a law has none of what the text ahead of it had, good or not. */
    private static void noneOfTheTextAhead() {
        String[] ahead = {"same b", "excuse x", "same b;excuse x", "excuse x;same b", "term 9;same b", "small 5;same b;excuse x|",
            "excuse x;same b&", "good 3 4;most 5 6;notice 7;back 8;gain 9;miles;same b", "excuse x|x|x|x;same b|b|b|b"};
        for (String first : ahead) {
            for (String next : new String[] {"even", "term 0", "good 1 1", "most 1 9999"}) {
                PennyRates x = new PennyRates();
                x.rate(0, 0, 0, 1, 5, 0, 0);
                x.truck(0, 0, 1, 1, 0);
                x.truck(0, 0, 1, 2, 0);
                Check.law(x, -1, 0, first);
                int number = x.count(2);
                due("'" + next + "' behind '" + first + "'", Check.law(x, -1, 0, next), number);
                due("same holds", x.unlike(0, 1, 0), 1);
                due("excuse doesn't", x.unlike(0, 1, 1), 1);
                int[] usual = {0, 1, 0, 365, 0, 0};
                for (int what = 1; what <= 6; what++) {
                    due("what " + what, x.holds(-1, 0, what), usual[what - 1]);
                }
                due("class of 3", x.holds(-1, 0, 23), 3);
                due("most of 5", x.holds(-1, 0, 15), 9999);
            }
        }
    }

    /** As many texts with long expressions as there may be laws, and more with faults: the last one is read whole. */
    private static void manyLongTexts() {
        PennyRates x = new PennyRates();
        x.rate(0, 0, 0, 1, 5, 0, 0);
        x.truck(0, 0, 1, 1, 0);
        x.truck(0, 0, 1, 2, 0);
        for (int k = 0; k < 16; k++) {
            due("a fault", Check.law(x, -1, 0, longText(139)), -149);
            String text = longText(136) + (k % 2 == 0 ? "|x" : "&x");
            due("a law of " + text.length(), Check.law(x, -1, 0, text), k);
            due("its last test is heard", x.unlike(0, 1, 0), k % 2 == 0 ? 1 : 0);
        }
    }

    /** "What THE LAW of an OWNER has not is as THE COURT's has it" */
    private static void asTheCourtHasIt() {
        PennyRates x = new PennyRates();
        Check.law(x, -1, 10, "term 11;small 12;notice 13;back 14;gain 15;miles;most 0 16;most 9 17;good 0 7;good 19 8");
        int[] whats = {1, 2, 3, 4, 5, 6, 10, 19, 20, 39};
        int[] courts = {11, 12, 13, 14, 15, 1, 16, 17, 7, 8};
        int[] usual = {0, 1, 0, 365, 0, 0, 9999, 9999, 0, 9};
        int[] own = {0, 0, 0, 0, 0, 0, 0, 0, 0, 0};
        Check.law(x, 3, 10, "most 1 1");
        Check.law(x, 4, 10, "term 0;small 0;notice 0;back 0;gain 0;even;most 0 0;most 9 0;good 0 0;good 19 0");
        for (int k = 0; k < whats.length; k++) {
            due("without a law, what " + whats[k], x.holds(2, 10, whats[k]), courts[k]);
            due("by a law that has it not, what " + whats[k], x.holds(3, 10, whats[k]), courts[k]);
            due("by a law that has it as 0, what " + whats[k], x.holds(4, 10, whats[k]), own[k]);
            due("the court's, what " + whats[k], x.holds(-1, 10, whats[k]), courts[k]);
            for (int owner = -1; owner < 6; owner++) {
                due("the day ahead, what " + whats[k], x.holds(owner, 9, whats[k]), usual[k]);
            }
        }
        Check.law(x, -1, 20, "term 99");
        due("the court's law of the day", x.holds(3, 20, 1), 99);
        due("it has no miles any more", x.holds(3, 20, 6), 0);
        due("nor a most", x.holds(3, 20, 10), 9999);
        due("the owner's own of the day stays", x.holds(3, 20, 11), 1);
        Check.law(x, 3, 30, "gain 1");
        due("an owner's newer law has not what its older one had", x.holds(3, 30, 11), 9999);
    }

    /** "without that: GOOD g is of CLASS g modulo 10; most 9999; term 0; small 1; notice 0; back 365; gain 0; even" */
    private static void withoutThat() {
        PennyRates x = new PennyRates();
        Check.law(x, -1, 5, "same x");
        Check.law(x, 2, 5, "excuse b");
        for (int day : new int[] {0, 4, 5, 9999}) {
            for (int owner = -1; owner < 6; owner++) {
                int[] usual = {0, 1, 0, 365, 0, 0};
                for (int what = 1; what <= 6; what++) {
                    due("what " + what, x.holds(owner, day, what), usual[what - 1]);
                }
                for (int c = 0; c < 10; c++) {
                    due("most of " + c, x.holds(owner, day, 10 + c), 9999);
                }
                for (int g = 0; g < 20; g++) {
                    due("class of " + g, x.holds(owner, day, 20 + g), g % 10);
                }
            }
        }
    }

    /** "what 0 the number of its own LAW (-1: none) .. -5: none such." */
    private static void holdsNoneSuch() {
        PennyRates x = new PennyRates();
        for (int k = 0; k < 16; k++) {
            Check.law(x, k < 8 ? -1 : 5, k * 600, "term " + k);
        }
        due("the court's greatest", x.holds(-1, 9999, 0), 7);
        due("owner 5's greatest", x.holds(5, 9999, 0), 15);
        due("owner 5's first", x.holds(5, 4800, 0), 8);
        due("owner 5's none", x.holds(5, 4799, 0), -1);
        due("owner 4's none", x.holds(4, 9999, 0), -1);
        for (int what = -3; what < 50; what++) {
            boolean isOne = (what >= 0 && what <= 6) || (what >= 10 && what < 40);
            CHECK.holds("what " + what, x.holds(5, 9999, what) == -5 != isOne);
        }
    }
}
