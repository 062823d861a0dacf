/**
 * Edges of terms 5 and 6 and promises 27 to 34, a method for each sentence, which stands above it.
 * What is refused for its numbers alone is in RefusalsTest.
 */
public final class WantsEdgesTest {
    private static final Check CHECK = new Check("WantsEdgesTest");

    private static void due(String call, long got, long want) {
        CHECK.due(call, got, want);
    }

    public static void main(String[] args) {
        wantsAsTheyCome();
        noMoreThan();
        takingsOfAnOwner();
        takingsOfAll();
        tryOtherPence();
        tryForTheAnswerAlone();
        listTenAtMost();
        listState();
        listless();
        changeThatMuchOrMore();
        changeBecomesMost();
        change9999AtMost();
        changeOfSeveral();
        changeOnToday();
        changeOfTen();
        friendsOfDays();
        friendsCut();
        rebateZeroAtLeast();
        friendsWithout();
        CHECK.end();
    }

    /** "WANTS 0 .. 19, as they come" */
    private static void wantsAsTheyCome() {
        PennyRates x = new PennyRates();
        for (int k = 0; k < 20; k++) {
            due("no want " + k, x.ships(k, 0), -1);
            due("want " + k, x.want(k % 15, 15, k, 1 + k * 98 / 19, k * 999 / 19), k);
            due("it does not ship", x.ships(k, 0), 0);
        }
        due("no other", x.want(0, 1, 0, 1, 0), -4);
        due("twenty", x.count(5), 20);
        due("no want 20", x.ships(20, 0), -1);
        due("no takings", x.takings(-1, 0), 0);
        x.rate(0, 0, 4, 15, 999, 0, 9);
        due("the last ships: 99 tons at 999", x.ships(19, 0), 1);
        due("its takings", x.takings(0, 0), 99 * 999);
        x.rate(0, 1, 0, 15, 0, 0, 0);
        due("the first ships for nothing", x.ships(0, 0), 1);
    }

    /** "It SHIPS on a DAY if CHEAP for it is no more than TONS times these." */
    private static void noMoreThan() {
        int[][] cases = {{1, 0, 0, 1}, {1, 0, 1, 0}, {7, 10, 10, 1}, {7, 10, 11, 0}, {7, 10, 9, 1}, {99, 999, 999, 1},
            {99, 999, 1000, 0}};
        for (int[] c : cases) {
            PennyRates x = new PennyRates();
            x.want(0, 1, 0, c[0], c[1]);
            x.rate(0, 0, 0, 1, c[2], 0, 0);
            due(c[0] + " tons at " + c[1] + " for " + c[2], x.ships(0, 0), c[3]);
            due("its takings", x.takings(-1, 0), c[3] == 1 ? c[0] * c[2] : 0);
        }
        PennyRates x = new PennyRates();
        x.rate(0, 0, 0, 1, 10, 5, 0);
        x.want(0, 1, 0, 9, 10);
        due("the day ahead of print", x.ships(0, 4), 0);
        due("the first day", x.ships(0, 5), 1);
        due("the last day", x.ships(0, 9999), 1);
        Check.law(x, 0, 20, "small 10");
        due("small makes it dearer", x.ships(0, 20), 0);
        Check.law(x, 0, 30, "small 9");
        due("just its tons", x.ships(0, 30), 1);
        Check.law(x, 0, 40, "term 1");
        due("term makes it dearer", x.ships(0, 40), 0);
        due("no class of its", x.want(0, 1, 1, 9, 999) == 1 ? x.ships(1, 5) : -99, 0);
        due("not back", x.want(1, 0, 0, 9, 999) == 2 ? x.ships(2, 5) : -99, 0);
    }

    /** "TAKINGS of an OWNER on a DAY: of all WANTS that SHIP, CHARGES by its RATES on their CHEAP." */
    private static void takingsOfAnOwner() {
        PennyRates x = new PennyRates();
        for (int s = 0; s < 8; s++) {
            x.rate(0, s % 6, s, s + 1, 1 << s, 0, 0);
        }
        x.want(0, 8, 0, 1, 255);
        int[] taken = {1 + 64, 2 + 128, 4, 8, 16, 32};
        for (int owner = 0; owner < 6; owner++) {
            due("owner " + owner, x.takings(owner, 0), taken[owner]);
        }
        due("all", x.takings(-1, 0), 255);
        x.want(0, 8, 0, 1, 254);
        due("one that does not ship", x.takings(-1, 0), 255);
        x.want(7, 8, 10, 99, 128);
        due("one that does", x.takings(1, 0), 2 + 128 + 99 * 128);
        x.rate(0, 5, 0, 8, 254, 3, 0);
        due("another cheap from day 3 on: the second ships too", x.takings(5, 3), 2 * 254);
        due("the others' of the first are none", x.takings(0, 3), 0);
        due("the day ahead", x.takings(5, 2), 32);
        x.pass(5);
        x.withdraw(8);
        due("withdrawn today", x.takings(5, 5), 32);
        due("the day ahead of that", x.takings(5, 4), 2 * 254);
    }

    /** "TAKINGS of an OWNER (-1: of all)" with the greatest numbers. */
    private static void takingsOfAll() {
        PennyRates x = new PennyRates();
        x.rate(0, 5, 0, 1, 999, 0, 0);
        for (int k = 0; k < 20; k++) {
            x.want(0, 1, 0, 99, 999);
        }
        due("twenty of the dearest", x.takings(-1, 9999), 20 * 99 * 999);
        due("of owner 5", x.takings(5, 0), 20 * 99 * 999);
        due("of owner 4", x.takings(4, 0), 0);
        due("one penny more", x.tries(0, 1000, 0), 0);
    }

    /** "A TRY: a RATE with other PENCE (0 .. 9999, of a TOLL 0 .. 99)" and "STATE: it is WITHDRAWN" */
    private static void tryOtherPence() {
        PennyRates x = new PennyRates();
        x.line(0, 0, 1, 10);
        x.rate(0, 0, 0, 1, 50, 0, 0);
        x.rate(3, 0, 0, 1, 60, 0, 0);
        x.want(0, 1, 0, 2, 999);
        due("as it is", x.takings(-1, 0), 100);
        due("for nothing", x.tries(0, 0, 0), 0);
        due("59", x.tries(0, 59, 0), 118);
        due("as dear as the toll", x.tries(0, 60, 0), 120);
        due("dearer than the toll", x.tries(0, 9999, 0), 120);
        due("the toll for nothing", x.tries(1, 0, 0), 0);
        due("the toll at 99", x.tries(1, 99, 0), 100);
        due("the toll at 49", x.tries(1, 49, 0), 98);
        x.set(0, 70);
        due("a set", x.tries(2, 0, 0), 0);
        due("a set at 9999", x.tries(2, 9999, 0), 120);
        due("withdrawn", x.tries(0, 50, 0), -3);
        x.undo(2);
        due("it is again", x.tries(0, 51, 0), 102);
        due("an undone set", x.tries(2, 50, 0), -3);
        x.rate(0, 0, 0, 1, 5, 10, 0);
        due("one that is not in print that day", x.tries(3, 0, 9), 100);
        due("one that is", x.tries(3, 1, 10), 2);
        x.pass(20);
        x.withdraw(3);
        due("withdrawn, on a day on which it was in print", x.tries(3, 1, 10), -3);
    }

    /** "for the answer alone": its pence, its charges and all else are as before. */
    private static void tryForTheAnswerAlone() {
        PennyRates x = new PennyRates();
        x.rate(0, 0, 0, 1, 50, 0, 0);
        x.want(0, 1, 0, 2, 999);
        x.truck(0, 0, 2, 101, 0);
        long before = Print.of(x);
        due("a try", x.tries(0, 7, 0), 14);
        due("all", Print.of(x), before);
        due("its pence", x.of(0, 5), 50);
        due("takings", x.takings(0, 0), 100);
        due("a suit", x.suit(0), 1);
    }

    /** "THE LIST (10 at most, told one by one)" and "FULL" */
    private static void listTenAtMost() {
        PennyRates x = new PennyRates();
        x.line(0, 0, 1, 10);
        for (int k = 0; k < 60; k++) {
            x.rate(0, 0, 0, 1, 50, 0, 0);
        }
        for (int k = 0; k < 10; k++) {
            due("place " + k, x.list(59 - k), k + 1);
        }
        due("FULL", x.list(0), -4);
        due("STATE ahead of FULL", x.list(59), -3);
        due("NONE ahead of FULL", x.list(60), -1);
        due("ten", x.count(6), 10);
        due("listless", x.listless(), 10);
        due("place 0 again", x.list(0), 1);
        due("one", x.count(6), 1);
    }

    /** "STATE: it is on it, WITHDRAWN, a TOLL, or there is no WAY" */
    private static void listState() {
        PennyRates x = new PennyRates();
        x.rate(0, 0, 0, 2, 5, 0, 0);
        x.rate(3, 1, 0, 2, 5, 0, 0);
        x.rate(0, 0, 0, 2, 5, 0, 0);
        due("no way", x.list(0), -3);
        x.line(1, 0, 1, 10);
        due("half a way", x.list(0), -3);
        x.line(2, 1, 2, 10);
        due("a way, though not by its owner's lines", x.list(0), 1);
        due("it is on it", x.list(0), -3);
        due("a toll", x.list(1), -3);
        x.set(1, 5);
        due("a set in place of a toll", x.list(3), 2);
        due("the toll withdrawn", x.list(1), -3);
        x.withdraw(2);
        due("withdrawn", x.list(2), -3);
        x.undo(3);
        due("the undone set is on it", x.list(3), -3);
        x.listless();
        due("the undone set is withdrawn", x.list(3), -3);
        due("another one", x.list(0), 1);
        x.rate(0, 0, 2, 0, 5, 9999, 0);
        due("one that is not in print yet", x.list(4), 2);
    }

    /** "THE LIST is empty: how many it had." */
    private static void listless() {
        PennyRates x = new PennyRates();
        x.line(0, 0, 1, 10);
        due("none", x.listless(), 0);
        for (int k = 0; k < 3; k++) {
            x.list(x.rate(0, 0, 0, 1, 50, 0, 0));
        }
        due("refused ones are not on it", x.list(0) + x.list(9), -4);
        due("three", x.listless(), 3);
        due("none again", x.listless(), 0);
        due("no count", x.count(6), 0);
        for (int k = 0; k < 3; k++) {
            due("each may come again", x.list(2 - k), k + 1);
        }
    }

    /** Four lines of 10 miles, a rate of 2 pence on each, which may become 10, and wants of 1, 2, 4, 8 tons. */
    private static PennyRates market() {
        PennyRates x = new PennyRates();
        Check.law(x, -1, 0, "most 0 10");
        for (int s = 0; s < 4; s++) {
            x.line(s, s, s + 4, 10);
            x.rate(0, s, s, s + 4, 2, 0, 0);
            x.want(s, s + 4, 0, 1 << s, 10);
        }
        return x;
    }

    /** "so that TAKINGS of all OWNERS together are that much or more" and "STATE: no set does" */
    private static void changeThatMuchOrMore() {
        PennyRates x = market();
        due("nothing at all", x.change(0), 0);
        due("just what is taken", x.change(30), 0);
        due("one more, with an empty list", x.change(31), -3);
        for (int s = 0; s < 4; s++) {
            x.list(s);
        }
        int[] more = {8, 16, 32, 64};
        for (int s = 0; s < 4; s++) {
            due("just what one brings", x.change(30 + more[s]), 1 << s);
            int next = s < 3 ? 1 << (s + 1) : 1 + 8;
            due("one more than one brings", x.change(30 + more[s] + 1), next);
        }
        due("just what all bring", x.change(150), 15);
        due("one more", x.change(151), -3);
        due("the greatest number", x.change(Integer.MAX_VALUE), -3);
        due("below 0", x.change(-1), -2);
        due("for the answer alone", x.takings(-1, 0), 30);
        due("the list stays", x.count(6), 4);
    }

    /** "the fewest whose PENCE must become MOST of TODAY": MOST may be less than they are, or too dear. */
    private static void changeBecomesMost() {
        PennyRates x = new PennyRates();
        Check.law(x, -1, 0, "most 0 10;most 1 11");
        x.line(0, 0, 1, 10);
        x.rate(0, 0, 0, 1, 12, 0, 0);
        x.want(0, 1, 0, 1, 10);
        x.rate(0, 0, 0, 1, 2, 0, 1);
        x.want(0, 1, 1, 1, 10);
        due("as they are", x.takings(-1, 0), 2);
        x.list(1);
        due("11 are too dear for it", x.change(3), -3);
        due("as much as is taken", x.change(2), 0);
        x.listless();
        x.list(0);
        due("12 become 10, and it ships", x.change(12), 1);
        due("no more", x.change(13), -3);
        x.list(1);
        due("the other one is left alone", x.change(12), 1);
        PennyRates y = new PennyRates();
        y.line(0, 0, 1, 9);
        Check.law(y, 0, 0, "most 0 11");
        y.rate(0, 0, 0, 1, 1, 0, 0);
        y.want(0, 1, 0, 1, 999);
        y.list(0);
        due("MOST is cut: 9", y.change(9), 1);
        due("not 9 and nine tenths", y.change(10), -3);
        Check.law(y, 0, 0, "most 0 0");
        due("MOST may be nothing", y.change(2), -3);
    }

    /** "(9999 at most)": a want has 999 at most, so what MOST beyond 9999 would do is what 9999 does. */
    private static void change9999AtMost() {
        int[] mosts = {110, 111, 112, 9999};
        int[] pence = {9900, 9990, 10080, 899910};
        for (int k = 0; k < mosts.length; k++) {
            PennyRates x = new PennyRates();
            for (int s = 0; s < 5; s++) {
                x.line(0, s, s + 1, s < 4 ? 200 : 100);
            }
            Check.law(x, 0, 0, "most 0 " + mosts[k]);
            x.rate(0, 0, 0, 5, 1, 0, 0);
            x.rate(0, 1, 0, 5, 999, 0, 0);
            x.want(0, 5, 0, 99, 999);
            x.list(0);
            due("MOST of 900 miles", x.most(0, 0, 0), pence[k]);
            due("1 a ton as it is", x.change(99), 0);
            due("raised it is dearer than the other one", x.change(100), 1);
            due("which takes this much", x.change(99 * 999), 1);
            due("and no more", x.change(99 * 999 + 1), -3);
            due("9999 would do the same", x.tries(0, 9999, 0), 99 * 999);
        }
    }

    /** "of several sets the least as bits (by their places)" */
    private static void changeOfSeveral() {
        PennyRates x = market();
        for (int s = 3; s >= 0; s--) {
            x.list(s);
        }
        due("any one does: the first place", x.change(31), 1);
        due("two places of three that do", x.change(30 + 65), 1 + 2);
        due("the one alone", x.change(30 + 64), 1);
        PennyRates y = new PennyRates();
        Check.law(y, -1, 0, "most 0 10");
        for (int s = 0; s < 5; s++) {
            y.line(0, s, s + 5, 10);
            y.rate(0, 0, s, s + 5, 2, 0, 0);
            y.want(s, s + 5, 0, 1, 10);
            y.list(s);
        }
        int[] bits = {0, 1, 3, 7, 15, 31};
        for (int k = 0; k <= 5; k++) {
            due("the least " + k, y.change(10 + 8 * k), bits[k]);
            due("just " + k, y.change(Math.max(0, 10 + 8 * k - 7)), bits[k]);
        }
        y.withdraw(0);
        due("the first is of no use by now", y.change(8 + 8), 2);
        due("of the least bits that do", y.change(8 + 16), 2 + 4);
    }

    /** "on TODAY": its laws and what is in print then. */
    private static void changeOnToday() {
        PennyRates x = new PennyRates();
        x.line(0, 0, 1, 10);
        Check.law(x, 0, 0, "most 0 10");
        Check.law(x, 0, 5, "most 0 20");
        Check.law(x, 0, 6, "most 0 30");
        x.rate(0, 0, 0, 1, 5, 0, 0);
        x.want(0, 1, 0, 1, 999);
        x.list(0);
        int[] most = {10, 10, 10, 10, 10, 20, 30};
        for (int day = 0; day < 7; day++) {
            due("day " + day, x.change(most[day]), 1);
            due("no more on day " + day, x.change(most[day] + 1), -3);
            x.pass(1);
        }
        x.rate(0, 0, 1, 0, 5, 8, 0);
        x.want(1, 0, 0, 1, 999);
        x.list(1);
        due("not in print yet", x.change(31), -3);
        x.pass(1);
        due("in print", x.change(31), 1);
        due("both", x.change(60), 3);
        x.withdraw(0);
        due("out of print", x.change(31), -3);
        due("the other one", x.change(30), 2);
    }

    /** "(10 at most ..)": sets of all ten places. */
    private static void changeOfTen() {
        PennyRates x = new PennyRates();
        Check.law(x, -1, 0, "most 0 10");
        for (int s = 0; s < 10; s++) {
            x.line(0, s, s + 1, 10);
            x.rate(0, 0, s, s + 1, 9, 0, 0);
            x.want(s, s + 1, 0, 1 + s, 10);
            x.list(s);
        }
        due("as they are", x.takings(-1, 0), 495);
        due("one more by the first", x.change(496), 1);
        due("the tenth alone", x.change(505), 1 << 9);
        due("of all twos that bring 11 the least as bits", x.change(506), 16 + 32);
        due("all but the first", x.change(549), 1023 - 1);
        due("all ten", x.change(550), 1023);
        due("no more", x.change(551), -3);
        for (int k = 10; k < 20; k++) {
            x.want(0, 1, 0, 10, 9);
        }
        due("twenty wants, ten of which don't ship if the first is raised", x.takings(-1, 0), 495 + 900);
        due("the second", x.change(495 + 901), 2);
        due("all but the first", x.change(495 + 900 + 54), 1023 - 1);
        due("no more with these", x.change(495 + 900 + 55), -3);
    }

    /** "on DAYS from one to another one" and "BAD: days (0 .. 9999, the first not above the last)" */
    private static void friendsOfDays() {
        PennyRates x = new PennyRates();
        x.rate(0, 5, 15, 0, 5, 0, 0);
        x.pass(20);
        for (int day = 0; day <= 20; day++) {
            x.truck(0, 19, 1, day, day);
        }
        due("all", x.friends(5, 19, 15, 0, 0, 9999, 0), 21);
        due("from the first day on", x.friends(5, 19, 15, 0, 0, 0, 0), 1);
        due("to the last day", x.friends(5, 19, 15, 0, 20, 20, 0), 1);
        due("behind it", x.friends(5, 19, 15, 0, 21, 9999, 0), 0);
        due("on both ends", x.friends(5, 19, 15, 0, 5, 9, 0), 5);
        due("the least of these", x.friends(5, 19, 15, 0, 5, 9, 1), 5);
        due("the greatest of these", x.friends(5, 19, 15, 0, 5, 9, 2), 9);
        due("the rebate of these", x.friends(5, 19, 15, 0, 5, 9, 3), 4 + 3 + 2 + 1);
        due("one above", x.friends(5, 19, 15, 0, 6, 5, 0), -2);
        due("alike", x.friends(5, 19, 15, 0, 6, 6, 0), 1);
        due("the first day of all and the last", x.friends(5, 19, 15, 0, 9999, 9999, 0), 0);
        due("another owner", x.friends(4, 19, 15, 0, 0, 9999, 0), 0);
        due("another good", x.friends(5, 9, 15, 0, 0, 9999, 0), 0);
        due("another from", x.friends(5, 19, 14, 0, 0, 9999, 0), 0);
        due("another to", x.friends(5, 19, 15, 1, 0, 9999, 0), 0);
        due("the other way", x.friends(5, 19, 0, 15, 0, 9999, 0), 0);
        x.withdraw(0);
        due("by a withdrawn rate still", x.friends(5, 19, 15, 0, 0, 9999, 0), 21);
    }

    /** "the least, the greatest PAID a ton, cut" */
    private static void friendsCut() {
        PennyRates x = new PennyRates();
        x.rate(0, 0, 0, 1, 5, 0, 0);
        x.truck(0, 0, 10, 29, 0);
        due("2 and nine tenths are 2", x.friends(0, 0, 0, 1, 0, 0, 1), 2);
        due("the greatest too", x.friends(0, 0, 0, 1, 0, 0, 2), 2);
        due("20 would be less than 29", x.friends(0, 0, 0, 1, 0, 0, 3), 0);
        x.truck(0, 0, 10, 30, 0);
        due("3 are 3", x.friends(0, 0, 0, 1, 0, 0, 2), 3);
        due("29 and 1 are 30", x.friends(0, 0, 0, 1, 0, 0, 3), 1);
        x.truck(0, 0, 99, 98, 0);
        due("less than one a ton is 0", x.friends(0, 0, 0, 1, 0, 0, 1), 0);
        due("by 99 tons", x.friends(0, 0, 0, 1, 0, 0, 3), 1 + 199);
        x.truck(0, 0, 1, 99999, 0);
        due("the greatest of all", x.friends(0, 0, 0, 1, 0, 0, 2), 99999);
    }

    /** "REBATE: what would have been PAID more if all had PAID a ton as the greatest (that cut; 0 at least of each TRUCK), added." */
    private static void rebateZeroAtLeast() {
        PennyRates x = new PennyRates();
        x.rate(0, 0, 0, 1, 5, 0, 0);
        x.truck(0, 0, 2, 19, 0);
        x.truck(0, 0, 2, 18, 0);
        x.truck(0, 0, 2, 17, 0);
        // The greatest is 9 a ton, cut: 18, so that 19 would be one less, which is 0.
        due("0 and 0 and 1", x.friends(0, 0, 0, 1, 0, 0, 3), 1);
        x.truck(0, 0, 1, 9, 0);
        due("as the greatest", x.friends(0, 0, 0, 1, 0, 0, 3), 1);
        x.truck(0, 0, 1, 0, 0);
        due("nothing paid", x.friends(0, 0, 0, 1, 0, 0, 3), 1 + 9);
        PennyRates y = new PennyRates();
        y.rate(0, 0, 0, 1, 5, 0, 0);
        y.truck(0, 0, 1, 99999, 0);
        for (int k = 1; k < 80; k++) {
            y.truck(0, 0, 99, 0, 0);
        }
        due("the greatest rebate", y.friends(0, 0, 0, 1, 0, 0, 3), 782092179);
    }

    /** "what 0 how many TRUCKS, 1 the least, 2 the greatest PAID a ton (0 without), 3 REBATE" */
    private static void friendsWithout() {
        PennyRates x = new PennyRates();
        x.rate(0, 0, 0, 1, 5, 0, 0);
        x.truck(0, 0, 1, 7, 0);
        for (int what = 0; what < 4; what++) {
            due("without, what " + what, x.friends(1, 0, 0, 1, 0, 9999, what), 0);
            due("of another good, what " + what, x.friends(0, 1, 0, 1, 0, 9999, what), 0);
            due("of another day, what " + what, x.friends(0, 0, 0, 1, 1, 9999, what), 0);
            due("of one station, what " + what, x.friends(0, 0, 1, 1, 0, 9999, what), 0);
        }
        for (int k = 0; k < 2; k++) {
            x.truck(0, 2, 1, 999, 0);
            x.truck(0, 3, 1, 3, 0);
        }
        int[] with = {1, 7, 7, 0};
        for (int good = 2; good <= 3; good++) {
            due("two of good " + good, x.friends(0, good, 0, 1, 0, 9999, 0), 2);
            for (int what = 0; what < 4; what++) {
                due("with one, what " + what, x.friends(0, 0, 0, 1, 0, 9999, what), with[what]);
                x.friends(0, good, 0, 1, 0, 9999, 0);
            }
        }
    }
}
