/**
 * Edges of terms 3 and promises 9 to 17, a method for each sentence, which stands above it.
 * What is refused for its numbers alone is in RefusalsTest.
 */
public final class RatesEdgesTest {
    private static final Check CHECK = new Check("RatesEdgesTest");

    private static void due(String call, long got, long want) {
        CHECK.due(call, got, want);
    }

    public static void main(String[] args) {
        ratesAsTheyCome();
        noticeAtLeast();
        noticeOfToday();
        specialInPrint();
        tonsOrMore();
        outOfPrint();
        whatItWasIsKnown();
        setInPlace();
        setOfASpecial();
        setOfAnyKind();
        undone();
        ofNoneSuch();
        servesItsClass();
        smallAtLeast();
        sumOfPenceAndTerm();
        tollByMiles();
        mostByTenCut();
        mostOfASpecial();
        overZeroAtLeast();
        neverOver();
        partsOfAThrough();
        greatestRemainders();
        partsAddUp();
        partsOfTheDay();
        CHECK.end();
    }

    /** "RATES 0 .. 59, as they come, of KINDS" */
    private static void ratesAsTheyCome() {
        PennyRates x = new PennyRates();
        for (int k = 0; k < 59; k++) {
            int[] kinds = {0, 1, 3, 4};
            int number = k % 5 == 4 ? x.special(5, 0, 15, k, 19, 99) : x.rate(kinds[k % 5], 5, 15, 0, k, 9999, 9);
            due("rate " + k, number, k);
        }
        due("a set is one too", x.set(0, 9999), 59);
        due("its number", x.of(59, 10), 0);
        due("no other rate", x.rate(0, 0, 0, 1, 5, 0, 0), -4);
        due("no special", x.special(0, 0, 1, 5, 0, 1), -4);
        due("no set", x.set(1, 5), -4);
        due("rate 1 stays as it was", x.of(1, 0), 1);
        due("an undone set leaves no room", x.undo(59), 0);
        due("no set again", x.set(0, 5), -4);
        due("nor does a withdrawn rate", x.withdraw(3), 1);
        due("no other rate again", x.rate(0, 0, 0, 1, 5, 0, 0), -4);
        due("sixty", x.count(3), 60);
        due("the last rate's charge", x.charge(58, 9, 1, 9999), 58);
        due("the last toll without a way", x.charge(57, 9, 1, 9999), -3);
    }

    /** "in print from a DAY on: the DAY told, but notice DAYS behind TODAY at least" */
    private static void noticeAtLeast() {
        PennyRates x = new PennyRates();
        x.pass(100);
        Check.law(x, 1, 0, "notice 10");
        int[] told = {100, 109, 110, 111, 9999};
        int[] printed = {110, 110, 110, 111, 9999};
        for (int k = 0; k < told.length; k++) {
            x.rate(0, 1, 0, 1, 5, told[k], 0);
            due("told " + told[k], x.of(k, 7), printed[k]);
            due("not the day ahead", x.charge(k, 0, 1, printed[k] - 1), -3);
            due("that day", x.charge(k, 0, 1, printed[k]), 5);
            due("the last day", x.charge(k, 0, 1, 9999), 5);
        }
        for (int kind : new int[] {1, 3, 4}) {
            int number = x.rate(kind, 1, 0, 1, 5, 100, 0);
            due("of kind " + kind, x.of(number, 7), 110);
        }
        x.rate(0, 0, 0, 1, 5, 100, 0);
        due("notice 0: today", x.of(8, 7), 100);
        due("today", x.charge(8, 0, 1, 100), 5);
        due("not yesterday", x.charge(8, 0, 1, 99), -3);
        Check.law(x, 1, 0, "notice 9899");
        x.rate(0, 1, 0, 1, 5, 100, 0);
        due("the last day of all", x.of(9, 7), 9999);
        due("in print then", x.charge(9, 0, 1, 9999), 5);
        Check.law(x, 1, 0, "notice 9900");
        x.rate(0, 1, 0, 1, 5, 100, 0);
        due("one behind it", x.of(10, 7), 10000);
        due("never in print", x.charge(10, 0, 1, 9999), -3);
    }

    /** "(THE LAW of the OWNER today)": neither an earlier one, nor one of tomorrow, nor another's. */
    private static void noticeOfToday() {
        PennyRates x = new PennyRates();
        Check.law(x, 1, 0, "notice 5");
        Check.law(x, 1, 10, "notice 20");
        Check.law(x, 1, 11, "notice 50");
        Check.law(x, 2, 10, "notice 70");
        Check.law(x, -1, 10, "notice 30");
        x.pass(9);
        x.rate(0, 1, 0, 1, 5, 9, 0);
        due("by the first law", x.of(0, 7), 14);
        x.rate(0, 1, 0, 1, 5, 11, 0);
        due("not by that of its own day", x.of(1, 7), 14);
        x.pass(1);
        x.rate(0, 1, 0, 1, 5, 10, 0);
        due("by today's", x.of(2, 7), 30);
        x.rate(0, 3, 0, 1, 5, 10, 0);
        due("as the court's", x.of(3, 7), 40);
        x.special(1, 0, 1, 5, 0, 1);
        due("a special's likewise", x.of(4, 7), 30);
        Check.law(x, 1, 10, "notice 0");
        due("it stays when the law is another one", x.of(2, 7), 30);
    }

    /** "(In print from TODAY on, or notice DAYS later.)" */
    private static void specialInPrint() {
        PennyRates x = new PennyRates();
        x.special(0, 0, 1, 5, 3, 1);
        due("from day 0 on", x.charge(0, 3, 1, 0), 5);
        x.pass(40);
        x.special(0, 0, 1, 5, 3, 1);
        due("from today on", x.of(1, 7), 40);
        due("not the day ahead", x.charge(1, 3, 1, 39), -3);
        due("today", x.charge(1, 3, 1, 40), 5);
        Check.law(x, 0, 40, "notice 1");
        x.special(0, 0, 1, 5, 3, 1);
        due("from tomorrow on", x.of(2, 7), 41);
        due("not today", x.charge(2, 3, 1, 40), -3);
        due("tomorrow", x.charge(2, 3, 1, 41), 5);
    }

    /** "A SPECIAL is for so many TONS or more (LEAST)." */
    private static void tonsOrMore() {
        PennyRates x = new PennyRates();
        int[] leasts = {1, 2, 50, 98, 99};
        for (int k = 0; k < leasts.length; k++) {
            x.special(0, 0, 1, 3, 12, leasts[k]);
            due("least", x.of(k, 9), leasts[k]);
            for (int tons : new int[] {1, 2, 49, 50, 51, 97, 98, 99}) {
                due(tons + " of " + leasts[k], x.charge(k, 12, tons, 0), tons >= leasts[k] ? 3 * tons : -3);
            }
        }
        Check.law(x, 0, 0, "small 99");
        due("small makes no tons of less", x.charge(4, 12, 98, 0), -3);
        due("just these", x.charge(4, 12, 99, 0), 297);
        due("one ton of a special for one", x.charge(0, 12, 1, 0), 297);
    }

    /** "A RATE that is withdrawn is WITHDRAWN, out of print from TODAY on" */
    private static void outOfPrint() {
        PennyRates x = new PennyRates();
        x.rate(0, 0, 0, 1, 5, 0, 0);
        x.rate(0, 0, 0, 1, 5, 10, 0);
        x.rate(0, 0, 0, 1, 5, 11, 0);
        due("withdrawn on day 0", x.rate(0, 0, 0, 1, 5, 0, 0) == 3 ? x.withdraw(3) : -99, 1);
        due("it never was in print", x.charge(3, 0, 1, 0), -3);
        due("from day 0 on", x.of(3, 8), 0);
        x.pass(10);
        for (int rate = 0; rate < 3; rate++) {
            due("in print yet", x.of(rate, 8), -1);
            due("withdrawn", x.withdraw(rate), 1);
            due("from today on", x.of(rate, 8), 10);
            due("today", x.charge(rate, 0, 1, 10), -3);
            due("tomorrow", x.charge(rate, 0, 1, 11), -3);
            due("the last day", x.charge(rate, 0, 1, 9999), -3);
            due("yesterday", x.charge(rate, 0, 1, 9), rate == 0 ? 5 : -3);
        }
        due("day 0", x.charge(0, 0, 1, 0), 5);
        x.pass(5);
        due("the day stays", x.of(0, 8), 10);
        due("withdrawn already", x.withdraw(0), -3);
        due("the day stays then too", x.of(0, 8), 10);
        due("day 9 as before", x.charge(0, 0, 1, 9), 5);
        due("day 10 as before", x.charge(0, 0, 1, 10), -3);
    }

    /** "what it was is known" */
    private static void whatItWasIsKnown() {
        PennyRates x = new PennyRates();
        x.line(0, 0, 1, 10);
        x.rate(0, 0, 0, 1, 5, 0, 4);
        x.rate(1, 0, 0, 1, 6, 0, 4);
        x.special(0, 0, 1, 7, 14, 9);
        x.rate(3, 0, 0, 1, 80, 0, 4);
        x.rate(4, 0, 0, 1, 9, 0, 4);
        x.pass(3);
        int[] pence = {5, 6, 7, 80, 9};
        for (int rate = 0; rate < 5; rate++) {
            x.withdraw(rate);
            due("kind", x.of(rate, 0), 6);
            due("what it was", x.of(rate, 1), rate);
            due("owner", x.of(rate, 2), 0);
            due("from", x.of(rate, 3), 0);
            due("to", x.of(rate, 4), 1);
            due("pence", x.of(rate, 5), pence[rate]);
            due("class or good", x.of(rate, 6), rate == 2 ? 14 : 4);
            due("in print from", x.of(rate, 7), 0);
            due("in print till", x.of(rate, 8), 3);
            due("least", x.of(rate, 9), rate == 2 ? 9 : 1);
            due("set in place of none", x.of(rate, 10), -1);
        }
        due("a toll by its miles", x.charge(3, 4, 2, 2), 160);
        due("a special for its good alone", x.charge(2, 4, 9, 2), -3);
        due("a special for so many tons", x.charge(2, 14, 8, 2), -3);
        due("a special", x.charge(2, 14, 9, 2), 63);
        due("a through's part", x.part(1, 2, 0), 6);
        due("a boat's part", x.part(4, 2, 0), 9);
    }

    /** "A SET is made .. of its OWNER, STATIONS and CLASS .., in print from TODAY on, without notice; the RATE is WITHDRAWN." */
    private static void setInPlace() {
        PennyRates x = new PennyRates();
        x.rate(0, 5, 15, 0, 9999, 0, 9);
        Check.law(x, -1, 0, "notice 99");
        Check.law(x, 5, 0, "notice 999");
        x.pass(7);
        due("a set of no pence", x.set(0, 0), 1);
        int[] set = {5, 5, 5, 15, 0, 0, 9, 7, -1, 1, 0};
        for (int what = 0; what <= 10; what++) {
            due("of the set " + what, x.of(1, what), set[what]);
        }
        due("the rate is withdrawn", x.of(0, 0), 6);
        due("from today on", x.of(0, 8), 7);
        due("the rate till yesterday", x.charge(0, 9, 1, 6), 9999);
        due("the set not yet", x.charge(1, 9, 1, 6), -3);
        due("the rate not today", x.charge(0, 9, 1, 7), -3);
        due("the set today", x.charge(1, 9, 1, 7), 0);
        due("the set on the last day", x.charge(1, 9, 1, 9999), 0);
        x.rate(0, 5, 15, 0, 1, 9999, 9);
        due("a rate that is not in print yet", x.set(2, 8), 3);
        due("the set is", x.charge(3, 9, 1, 7), 8);
        due("the rate never is", x.charge(2, 9, 1, 9999), -3);
        due("a set is no rate to be set again", x.set(3, 5), -3);
        due("nor to be withdrawn", x.withdraw(3), -3);
        due("it stays", x.of(3, 0), 5);
    }

    /** "(of a SPECIAL: its GOOD's today, by its OWNER's LAW)" */
    private static void setOfASpecial() {
        PennyRates x = new PennyRates();
        Check.law(x, 3, 9, "good 19 1");
        Check.law(x, 3, 10, "good 19 2");
        Check.law(x, 3, 11, "good 19 3");
        Check.law(x, 2, 10, "good 19 4");
        Check.law(x, -1, 10, "good 19 5;good 18 6");
        x.special(3, 0, 1, 50, 19, 99);
        x.special(3, 0, 1, 50, 18, 99);
        x.special(3, 0, 1, 50, 17, 99);
        x.pass(10);
        for (int k = 0; k < 3; k++) {
            due("a set", x.set(k, 4), 3 + k);
        }
        due("by its owner's law of today", x.of(3, 6), 2);
        due("as the court's", x.of(4, 6), 6);
        due("without that", x.of(5, 6), 7);
        due("for one ton", x.charge(3, 19, 1, 10), 4);
        due("for others of the class", x.charge(3, 12, 1, 10), 4);
        due("its class stays", x.charge(3, 19, 1, 11), -3);
        due("and serves its class", x.charge(3, 2, 1, 11), 4);
    }

    /** "in place of a RATE (of any KIND but WITHDRAWN, SET)" */
    private static void setOfAnyKind() {
        PennyRates x = new PennyRates();
        x.rate(0, 0, 0, 1, 5, 0, 0);
        x.rate(1, 0, 0, 1, 5, 0, 0);
        x.special(0, 0, 1, 5, 0, 1);
        x.rate(3, 0, 0, 1, 5, 0, 0);
        x.rate(4, 0, 0, 1, 5, 0, 0);
        for (int rate = 0; rate < 5; rate++) {
            due("kind " + rate, x.set(rate, 9999), 5 + rate);
            due("a set in pence a ton", x.charge(5 + rate, 0, 1, 0), 9999);
            due("withdrawn by then", x.set(rate, 1), -3);
            due("a set by then", x.set(5 + rate, 1), -3);
            due("no part of it", x.part(5 + rate, 0, 0), -12);
        }
        due("ten", x.count(3), 10);
    }

    /** "UNDONE: the SET is WITHDRAWN, and the RATE is as if it had not been." and "CAST: it is no SET" */
    private static void undone() {
        PennyRates x = new PennyRates();
        x.line(0, 0, 1, 10);
        x.rate(0, 0, 0, 1, 5, 0, 0);
        x.rate(3, 0, 0, 1, 99, 50, 0);
        x.pass(10);
        x.set(0, 3);
        x.set(1, 4);
        x.pass(10);
        due("the rate behind it", x.undo(2), 0);
        due("it is in print still", x.of(0, 8), -1);
        due("from its day on", x.of(0, 7), 0);
        for (int day : new int[] {0, 9, 10, 19, 20, 9999}) {
            due("the rate on day " + day, x.charge(0, 0, 1, day), 5);
            due("the set on day " + day, x.charge(2, 0, 1, day), day >= 10 && day < 20 ? 3 : -3);
        }
        due("the set's kind", x.of(2, 0), 6);
        due("what it was", x.of(2, 1), 5);
        due("from today on", x.of(2, 8), 20);
        due("no set any more", x.undo(2), -12);
        due("the rate is none", x.undo(0), -12);
        due("a withdrawn one is none", x.undo(1), -12);
        due("the other set", x.undo(3), 1);
        due("a toll again", x.charge(1, 0, 1, 50), 99);
        due("in print from its own day on", x.charge(1, 0, 1, 49), -3);
        due("set and undone in one day", x.set(0, 8) == 4 ? x.undo(4) : -99, 0);
        due("it never was in print", x.charge(4, 0, 1, 20), -3);
        due("nor the day ahead", x.charge(4, 0, 1, 19), -3);
        due("the rate may be withdrawn again", x.withdraw(0), 1);
        due("from today on", x.of(0, 8), 20);
    }

    /** "9 LEAST (1 of others), 10 in place of which it is SET (-1). -5: none such." */
    private static void ofNoneSuch() {
        PennyRates x = new PennyRates();
        x.rate(0, 0, 0, 1, 5, 0, 0);
        for (int what = -2; what < 13; what++) {
            CHECK.holds("what " + what, x.of(0, what) == -5 == (what < 0 || what > 10));
            due("no rate 1", x.of(1, what), -5);
            due("no rate -1", x.of(-1, what), -5);
        }
        x.set(0, 5);
        due("in place of rate 0", x.of(1, 10), 0);
        due("the rate itself is in place of none", x.of(0, 10), -1);
        due("in print still", x.of(1, 8), -1);
    }

    /** "the GOOD is of its CLASS (by THE LAW of its OWNER that DAY), or is its GOOD" */
    private static void servesItsClass() {
        PennyRates x = new PennyRates();
        for (int c = 0; c < 10; c++) {
            x.rate(0, 2, 0, 1, 1, 0, c);
        }
        for (int g = 0; g < 20; g++) {
            x.special(2, 0, 1, 1, g, 1);
        }
        Check.law(x, 2, 50, "good 0 9;good 19 0");
        Check.law(x, 3, 50, "good 1 8");
        for (int g = 0; g < 20; g++) {
            for (int c = 0; c < 10; c++) {
                int lawful = g == 0 ? 9 : g == 19 ? 0 : g % 10;
                due(g + " of class " + c, x.charge(c, g, 1, 49), g % 10 == c ? 1 : -3);
                due(g + " of class " + c + " by law", x.charge(c, g, 1, 50), lawful == c ? 1 : -3);
            }
            for (int s = 0; s < 20; s++) {
                due(g + " by a special for " + s, x.charge(10 + s, g, 1, 50), g == s ? 1 : -3);
            }
        }
    }

    /** "TONS, but small at least (of small 99 at most; its OWNER's LAW that DAY)" */
    private static void smallAtLeast() {
        PennyRates x = new PennyRates();
        x.rate(0, 2, 0, 1, 10, 0, 0);
        x.rate(0, 3, 0, 1, 10, 0, 0);
        int[] smalls = {0, 1, 2, 50, 98, 99, 100, 9999};
        for (int k = 0; k < smalls.length; k++) {
            Check.law(x, 2, k, "small " + smalls[k]);
            for (int tons : new int[] {1, 2, 3, 49, 50, 51, 97, 98, 99}) {
                int least = Math.min(smalls[k], 99);
                due(tons + " by small " + smalls[k], x.charge(0, 0, tons, k), 10 * Math.max(tons, least));
                due(tons + " of another owner", x.charge(1, 0, tons, k), 10 * tons);
            }
        }
        due("that day's", x.charge(0, 0, 1, 6), 990);
        due("that day's, the one ahead of it", x.charge(0, 0, 1, 3), 500);
    }

    /** "times the sum of PENCE and term" */
    private static void sumOfPenceAndTerm() {
        PennyRates x = new PennyRates();
        x.rate(0, 2, 0, 1, 0, 0, 0);
        x.rate(0, 2, 0, 1, 9999, 0, 0);
        Check.law(x, 2, 1, "term 1");
        Check.law(x, 2, 2, "term 9999");
        int[] terms = {0, 1, 9999};
        for (int day = 0; day < 3; day++) {
            for (int tons : new int[] {1, 99}) {
                due("no pence, term " + terms[day], x.charge(0, 0, tons, day), tons * terms[day]);
                due("most pence, term " + terms[day], x.charge(1, 0, tons, day), tons * (9999 + terms[day]));
            }
        }
        x.special(2, 0, 1, 5, 0, 1);
        x.set(0, 6);
        due("a special's too", x.charge(2, 0, 1, 1), 6);
        due("a set's too", x.charge(3, 0, 1, 2), 10005);
    }

    /** "(a TOLL: PENCE are MILES of the WAY by LINES of its OWNER, times its tenths, by 10, cut; it SERVES if there is a WAY)" */
    private static void tollByMiles() {
        PennyRates x = new PennyRates();
        x.rate(3, 4, 0, 1, 1, 0, 0);
        due("no way", x.charge(0, 0, 1, 0), -3);
        x.line(3, 0, 1, 1);
        due("no way of its owner's", x.charge(0, 0, 1, 0), -3);
        int[] miles = {29, 20, 19, 11, 10, 9, 1};
        int[] pence = {2, 2, 1, 1, 1, 0, 0};
        for (int k = 0; k < miles.length; k++) {
            x.line(4, 0, 1, miles[k]);
            due(miles[k] + " miles at a tenth", x.charge(0, 0, 1, 0), pence[k]);
            due("cut ahead of the tons", x.charge(0, 0, 99, 0), 99 * pence[k]);
        }
        x.rate(3, 4, 0, 1, 0, 0, 0);
        due("no tenths", x.charge(1, 0, 99, 0), 0);
        due("no tenths and no way", x.rate(3, 4, 0, 2, 0, 0, 0) == 2 ? x.charge(2, 0, 1, 0) : -99, -3);
        noWayWhateverTheTerm();
        PennyRates y = new PennyRates();
        for (int s = 0; s < 15; s++) {
            y.line(4, s, s + 1, 200);
        }
        y.rate(3, 4, 0, 15, 99, 0, 0);
        due("3000 miles at 99 tenths", y.charge(0, 0, 1, 0), 29700);
        Check.law(y, -1, 0, "term 9999");
        due("the dearest of all", y.charge(0, 0, 99, 0), 99 * (29700 + 9999));
        Check.law(y, -1, 0, "term 9");
        due("term is added behind the cut", y.charge(0, 0, 1, 0), 29709);
    }

    private static void noWayWhateverTheTerm() {
        PennyRates x = new PennyRates();
        x.rate(3, 4, 0, 1, 99, 0, 0);
        x.want(0, 1, 0, 1, 999);
        x.truck(0, 0, 1, 5, 0);
        for (String term : new String[] {"0", "1", "2", "9999"}) {
            Check.law(x, 4, 0, "term " + term);
            due("no WAY, term " + term, x.charge(0, 0, 1, 0), -3);
            due("not due, term " + term, x.due(0), -3);
            due("not cheap, term " + term, x.cheap(0, 1, 0, 1, 0, 0), -3);
            due("not shipped, term " + term, x.ships(0, 0), 0);
            due("no try, term " + term, x.tries(0, 5, 0), 0);
        }
    }

    /** "MOST ..: MILES of the WAY by any LINES times most of its CLASS .., by 10, cut." */
    private static void mostByTenCut() {
        PennyRates x = new PennyRates();
        x.rate(0, 4, 0, 1, 5, 0, 7);
        due("STATE: there is no WAY", x.most(0, 0, 0), -3);
        noWayWhateverTheLaw();
        x.line(3, 0, 1, 1);
        Check.law(x, 4, 1, "most 7 9");
        Check.law(x, 4, 2, "most 7 10");
        Check.law(x, 4, 3, "most 7 19;most 6 999");
        Check.law(x, 4, 4, "most 7 0");
        Check.law(x, 3, 4, "most 7 500");
        int[] pence = {999, 0, 1, 1, 0};
        for (int day = 0; day < 5; day++) {
            due("a mile on day " + day, x.most(0, day, 0), pence[day]);
        }
        Check.law(x, -1, 5, "most 7 55");
        Check.law(x, 4, 5, "even");
        due("as the court's", x.most(0, 5, 0), 5);
        PennyRates y = new PennyRates();
        for (int s = 0; s < 15; s++) {
            y.line(s % 6, s, s + 1, 200);
        }
        y.rate(0, 0, 15, 0, 9999, 0, 0);
        due("the greatest", y.most(0, 9999, 0), 3000 * 9999 / 10);
        due("not over", y.most(0, 9999, 1), 0);
    }

    private static void noWayWhateverTheLaw() {
        PennyRates x = new PennyRates();
        x.rate(0, 4, 0, 1, 5, 0, 7);
        x.line(4, 0, 2, 1);
        for (String most : new String[] {"0", "1", "9", "10", "9999"}) {
            Check.law(x, 4, 0, "most 7 " + most);
            due("no WAY, most " + most, x.most(0, 0, 0), -3);
            due("not over, most " + most, x.most(0, 0, 1), 0);
        }
    }

    /** "(of a SPECIAL: of its GOOD's; THE LAW of its OWNER then)" */
    private static void mostOfASpecial() {
        PennyRates x = new PennyRates();
        x.line(0, 0, 1, 10);
        x.special(2, 0, 1, 100, 18, 1);
        Check.law(x, -1, 0, "most 8 5;most 3 6");
        due("of class 8", x.most(0, 9, 0), 5);
        Check.law(x, 2, 10, "good 18 3");
        due("the day ahead", x.most(0, 9, 0), 5);
        due("of class 3 then", x.most(0, 10, 0), 6);
        due("over by that", x.most(0, 10, 1), 94);
        due("over the day ahead", x.most(0, 9, 1), 95);
    }

    /** "OVER: its PENCE (a TOLL's as of CHARGE; 0 if it has no WAY) less MOST, 0 at least (0 without a WAY; ..)" */
    private static void overZeroAtLeast() {
        PennyRates x = new PennyRates();
        Check.law(x, -1, 0, "most 0 20");
        for (int pence : new int[] {0, 19, 20, 21, 9999}) {
            x.rate(0, 0, 0, 1, pence, 0, 0);
        }
        for (int tenths : new int[] {0, 20, 21, 99}) {
            x.rate(3, 1, 0, 1, tenths, 0, 0);
        }
        for (int rate = 0; rate < 9; rate++) {
            due("without a way", x.most(rate, 0, 1), 0);
        }
        x.line(0, 0, 1, 10);
        int[] over = {0, 0, 0, 1, 9979};
        for (int rate = 0; rate < 5; rate++) {
            due("rate " + rate, x.most(rate, 0, 1), over[rate]);
        }
        for (int rate = 5; rate < 9; rate++) {
            due("a toll without a way of its owner's", x.most(rate, 0, 1), 0);
        }
        x.line(1, 0, 1, 10);
        int[] tollOver = {0, 0, 1, 79};
        for (int rate = 5; rate < 9; rate++) {
            due("toll " + rate, x.most(rate, 0, 1), tollOver[rate - 5]);
        }
        PennyRates y = new PennyRates();
        Check.law(y, -1, 0, "most 0 10");
        y.line(0, 0, 1, 10);
        y.line(1, 0, 1, 15);
        y.rate(3, 1, 0, 1, 9, 0, 0);
        due("a toll by its owner's longer way, cut: 13, not 13 and a half", y.most(0, 0, 1), 3);
    }

    /** "(.. a SET is never OVER, nor is one that is WITHDRAWN)" */
    private static void neverOver() {
        PennyRates x = new PennyRates();
        Check.law(x, -1, 0, "most 0 0");
        x.line(0, 0, 1, 10);
        x.rate(0, 0, 0, 1, 50, 0, 0);
        due("over", x.most(0, 0, 1), 50);
        x.pass(10);
        x.set(0, 9999);
        due("a set", x.most(1, 10, 1), 0);
        due("a set's most", x.most(1, 10, 0), 0);
        due("withdrawn", x.most(0, 10, 1), 0);
        due("withdrawn, though it was in print that day", x.most(0, 5, 1), 0);
        x.undo(1);
        due("it is again", x.most(0, 10, 1), 50);
        due("the undone set", x.most(1, 10, 1), 0);
        x.rate(0, 0, 0, 1, 50, 20, 0);
        due("one that is not in print yet", x.most(2, 10, 1), 50);
    }

    /** "PARTS of a THROUGH (or BOAT): its PENCE among the OWNERS of the LINES of the WAY by any LINES" */
    private static void partsOfAThrough() {
        PennyRates x = new PennyRates();
        x.line(0, 0, 1, 100);
        x.line(1, 0, 2, 40);
        x.line(2, 2, 1, 59);
        for (int kind : new int[] {1, 4}) {
            int rate = x.rate(kind, 5, 0, 1, 9999, 0, 0);
            due("not on the way", x.part(rate, 0, 0), 0);
            due("on the way", x.part(rate, 0, 1), 5000);
            due("on the way too", x.part(rate, 0, 2), 4999);
            due("its own owner is not on it", x.part(rate, 0, 5), 0);
        }
        Check.law(x, 5, 0, "miles");
        due("40 of 99 miles", x.part(0, 0, 1), 4040);
        due("59 of 99 miles", x.part(0, 0, 2), 5959);
        x.line(0, 0, 1, 98);
        due("a way of one line", x.part(0, 0, 0), 9999);
        due("none for the others", x.part(0, 0, 1) + x.part(0, 0, 2), 0);
    }

    /** "cut, and one more each those with the greatest remainders (of several the least OWNER)" */
    private static void greatestRemainders() {
        PennyRates x = new PennyRates();
        for (int s = 0; s < 6; s++) {
            x.line(5 - s, s, s + 1, 1 + s);
        }
        for (int pence = 0; pence <= 12; pence++) {
            x.rate(1, 0, 0, 6, pence, 0, 0);
            for (int owner = 0; owner < 6; owner++) {
                due(pence + " alike to " + owner, x.part(pence, 0, owner), (pence + 5 - owner) / 6);
            }
        }
        Check.law(x, 0, 0, "miles");
        // Owners 5 to 0 have 1 to 6 of 21 miles. Of 10 pence: 60, 50, 40, 30, 20, 10 by 21.
        int[] of10 = {3, 2, 2, 1, 1, 1};
        // Of 7: 42, 35, 28, 21, 14, 7 by 21: remainders 0, 14, 7, 0, 14, 7.
        int[] of7 = {2, 2, 1, 1, 1, 0};
        // Of 1: the greatest remainder is owner 0's. Of 2: 12, 10, 8, 6, 4, 2.
        int[] of1 = {1, 0, 0, 0, 0, 0};
        int[] of2 = {1, 1, 0, 0, 0, 0};
        for (int owner = 0; owner < 6; owner++) {
            due("10 by miles to " + owner, x.part(10, 0, owner), of10[owner]);
            due("7 by miles to " + owner, x.part(7, 0, owner), of7[owner]);
            due("1 by miles to " + owner, x.part(1, 0, owner), of1[owner]);
            due("2 by miles to " + owner, x.part(2, 0, owner), of2[owner]);
            due("nothing by miles to " + owner, x.part(0, 0, owner), 0);
        }
    }

    /** The parts are all of its PENCE, by miles and alike, with an owner of several lines counted once. */
    private static void partsAddUp() {
        PennyRates x = new PennyRates();
        for (int s = 0; s < 15; s++) {
            x.line(s * s % 6, s, s + 1, 200 - 13 * s);
        }
        int[] pences = {0, 1, 2, 3, 5, 100, 9998, 9999};
        for (int pence : pences) {
            x.rate(4, 5, 15, 0, pence, 0, 0);
        }
        Check.law(x, 5, 1, "miles");
        for (int k = 0; k < pences.length; k++) {
            for (int day = 0; day < 2; day++) {
                int sum = 0;
                for (int owner = 0; owner < 6; owner++) {
                    sum += x.part(k, day, owner);
                }
                due("all parts of " + pences[k], sum, pences[k]);
            }
        }
        // Owners 0, 1, 3 and 4 have lines, several each.
        due("alike among four: 0", x.part(7, 0, 0), 2500);
        due("alike among four: 1", x.part(7, 0, 1), 2500);
        due("alike among four: 3", x.part(7, 0, 3), 2500);
        due("alike among four: 4", x.part(7, 0, 4), 2499);
        due("none to 2", x.part(7, 0, 2), 0);
    }

    /** "(THE LAW of its OWNER on the DAY asked.)" */
    private static void partsOfTheDay() {
        PennyRates x = new PennyRates();
        x.line(0, 0, 1, 1);
        x.line(1, 1, 2, 9);
        x.rate(1, 3, 0, 2, 10, 0, 0);
        Check.law(x, 3, 10, "miles");
        Check.law(x, 3, 20, "even");
        Check.law(x, -1, 30, "miles");
        Check.law(x, 3, 40, "term 1");
        Check.law(x, 0, 0, "miles");
        int[] days = {0, 9, 10, 19, 20, 30, 39, 40, 9999};
        int[] parts = {5, 5, 1, 1, 5, 5, 5, 1, 1};
        for (int k = 0; k < days.length; k++) {
            due("on day " + days[k], x.part(0, days[k], 0), parts[k]);
            due("the other's on day " + days[k], x.part(0, days[k], 1), 10 - parts[k]);
        }
        x.pass(5);
        x.withdraw(0);
        due("withdrawn, a day on which it is out of print", x.part(0, 10, 0), 1);
    }
}
