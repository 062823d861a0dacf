/** Promises 27 to 34: want, ships, takings, tries, list, listless, change, friends. */
public final class WantsTest {
    private static final Check CHECK = new Check("WantsTest");

    private static void due(String call, long got, long want) {
        CHECK.due(call, got, want);
    }

    public static void main(String[] args) {
        want();
        ships();
        takings();
        tries();
        list();
        listRefusals();
        changeRefusals();
        changeFewest();
        changeLeastBits();
        changeKinds();
        changeWhole();
        friendsRefusals();
        friends();
        friendsLimits();
        CHECK.end();
    }

    private static void want() {
        PennyRates x = new PennyRates();
        due("from -1", x.want(-1, 0, 0, 1, 0), -1);
        due("to 16", x.want(0, 16, 0, 1, 0), -1);
        due("good 20", x.want(0, 1, 20, 1, 0), -1);
        due("NONE ahead of BAD", x.want(1, 1, 20, 0, -1), -1);
        due("one station", x.want(1, 1, 0, 1, 0), -2);
        due("tons 0", x.want(0, 1, 0, 0, 0), -2);
        due("tons 100", x.want(0, 1, 0, 100, 0), -2);
        due("pence -1", x.want(0, 1, 0, 1, -1), -2);
        due("pence 1000", x.want(0, 1, 0, 1, 1000), -2);
        due("none came", x.count(5), 0);
        due("a want", x.want(0, 1, 0, 1, 0), 0);
        due("another", x.want(15, 0, 19, 99, 999), 1);
        for (int k = 2; k < 20; k++) {
            due("want " + k, x.want(0, 1, 0, 1, 0), k);
        }
        due("the 21st", x.want(0, 1, 0, 1, 0), -4);
        due("BAD ahead of FULL", x.want(0, 0, 0, 1, 0), -2);
        due("twenty", x.count(5), 20);
    }

    private static void ships() {
        PennyRates x = new PennyRates();
        due("none", x.ships(0, 0), -1);
        x.want(0, 2, 0, 7, 10);
        due("-1", x.ships(-1, 0), -1);
        due("NONE ahead of BAD", x.ships(1, -1), -1);
        due("day -1", x.ships(0, -1), -2);
        due("day 10000", x.ships(0, 10000), -2);
        due("no cheap", x.ships(0, 0), 0);
        x.rate(0, 0, 0, 1, 4, 0, 0);
        x.rate(0, 0, 1, 2, 6, 3, 0);
        due("ahead of print", x.ships(0, 2), 0);
        due("just as much", x.ships(0, 3), 1);
        Check.law(x, 0, 5, "small 8");
        due("too dear by small", x.ships(0, 5), 0);
        due("not yet", x.ships(0, 4), 1);
        x.want(0, 1, 1, 7, 999);
        due("another class", x.ships(1, 4), 0);
        x.rate(0, 0, 4, 5, 0, 0, 0);
        x.want(4, 5, 0, 7, 0);
        due("for nothing", x.ships(2, 4), 1);
    }

    private static void takings() {
        PennyRates x = new PennyRates();
        due("owner -2", x.takings(-2, 0), -1);
        due("owner 6", x.takings(6, 0), -1);
        due("NONE ahead of BAD", x.takings(6, -1), -1);
        due("day -1", x.takings(0, -1), -2);
        due("day 10000", x.takings(-1, 10000), -2);
        x.rate(0, 0, 0, 1, 4, 0, 0);
        x.rate(0, 5, 1, 2, 6, 0, 0);
        x.rate(0, 0, 2, 3, 1, 0, 0);
        x.want(0, 3, 0, 10, 11);
        x.want(0, 3, 0, 10, 10);
        x.want(1, 2, 10, 3, 500);
        due("owner 0", x.takings(0, 0), 50);
        due("owner 5", x.takings(5, 0), 60 + 18);
        due("owner 1", x.takings(1, 0), 0);
        due("all", x.takings(-1, 0), 128);
        Check.law(x, -1, 7, "term 1");
        due("a day on which only one ships", x.takings(-1, 7), 21);
        due("the day ahead", x.takings(-1, 6), 128);
    }

    private static void tries() {
        PennyRates x = new PennyRates();
        due("no rate", x.tries(0, 1, 0), -1);
        x.line(0, 0, 1, 10);
        x.rate(0, 0, 0, 1, 4, 0, 0);
        x.rate(3, 0, 0, 1, 9, 0, 0);
        x.want(0, 1, 0, 2, 8);
        due("-1", x.tries(-1, 1, 0), -1);
        due("pence -1", x.tries(0, -1, 0), -2);
        due("pence 10000", x.tries(0, 10000, 0), -2);
        due("tenths 100", x.tries(1, 100, 0), -2);
        due("day -1", x.tries(0, 1, -1), -2);
        due("day 10000", x.tries(0, 1, 10000), -2);
        due("as it is", x.takings(-1, 0), 8);
        due("other pence", x.tries(0, 3, 0), 6);
        due("for nothing", x.tries(0, 0, 0), 0);
        due("dearer than the want and the toll", x.tries(0, 9999, 0), 0);
        due("another toll", x.tries(1, 2, 0), 4);
        due("a dear toll", x.tries(1, 99, 0), 8);
        due("for the answer alone", x.takings(-1, 0), 8);
        due("its pence", x.of(0, 5), 4);
        x.withdraw(0);
        due("withdrawn", x.tries(0, 3, 0), -3);
        due("BAD ahead of STATE", x.tries(0, -1, 0), -2);
        x.set(1, 3);
        due("a set", x.tries(2, 7, 0), 14);
        due("a set in pence", x.tries(2, 9999, 0), 0);
        due("a withdrawn toll", x.tries(1, 5, 0), -3);
    }

    private static void list() {
        PennyRates x = new PennyRates();
        x.line(3, 0, 1, 10);
        for (int k = 0; k < 12; k++) {
            x.rate(k % 2, 0, 0, 1, 4, 0, 0);
        }
        due("empty", x.listless(), 0);
        for (int k = 0; k < 10; k++) {
            due("place " + k, x.list(11 - k), k + 1);
        }
        due("the 11th", x.list(0), -4);
        due("STATE ahead of FULL", x.list(5), -3);
        due("ten", x.count(6), 10);
        due("listless", x.listless(), 10);
        due("none", x.count(6), 0);
        due("again", x.list(5), 1);
        due("listless again", x.listless(), 1);
        due("listless still", x.listless(), 0);
    }

    private static void listRefusals() {
        PennyRates x = new PennyRates();
        due("no rate", x.list(0), -1);
        x.rate(0, 0, 0, 2, 4, 0, 0);
        x.rate(3, 0, 0, 1, 4, 0, 0);
        x.rate(4, 0, 0, 1, 4, 0, 0);
        x.rate(0, 0, 0, 1, 4, 0, 0);
        x.special(0, 0, 1, 4, 0, 1);
        due("-1", x.list(-1), -1);
        due("no way", x.list(0), -3);
        x.line(5, 2, 1, 1);
        x.line(4, 1, 0, 1);
        due("a way by any lines", x.list(0), 1);
        due("it is on it", x.list(0), -3);
        due("a toll", x.list(1), -3);
        due("a boat", x.list(2), 2);
        x.withdraw(3);
        due("withdrawn", x.list(3), -3);
        due("a special", x.list(4), 3);
        x.set(1, 4);
        due("a set", x.list(5), 4);
        x.undo(5);
        due("it stays when undone", x.count(6), 4);
        due("it is on it still", x.list(5), -3);
    }

    private static void changeRefusals() {
        PennyRates x = new PennyRates();
        due("below 0", x.change(-1), -2);
        due("far below 0", x.change(Integer.MIN_VALUE), -2);
        due("0", x.change(0), 0);
        due("1", x.change(1), -3);
        due("very much", x.change(Integer.MAX_VALUE), -3);
    }

    private static PennyRates market() {
        PennyRates x = new PennyRates();
        Check.law(x, -1, 0, "most 0 10;most 1 20");
        for (int s = 0; s < 4; s++) {
            x.line(0, s, s + 4, 10);
            x.rate(0, 0, s, s + 4, 2, 0, 0);
            x.want(s, s + 4, 0, s + 1, 50);
        }
        return x;
    }

    private static void changeFewest() {
        PennyRates x = market();
        due("as it is", x.takings(-1, 0), 20);
        for (int s = 0; s < 4; s++) {
            x.list(s);
        }
        // Each may become 10 a ton: 8, 16, 24, 32 more.
        due("20", x.change(20), 0);
        due("21: the least single one", x.change(21), 1);
        due("29", x.change(29), 2);
        due("44", x.change(44), 4);
        due("45", x.change(45), 8);
        due("52", x.change(52), 8);
        due("53: of two, the least bits", x.change(53), 2 + 4);
        due("60", x.change(60), 2 + 4);
        due("61", x.change(61), 2 + 8);
        due("76", x.change(76), 4 + 8);
        due("77", x.change(77), 1 + 4 + 8);
        due("100", x.change(100), 15);
        due("101", x.change(101), -3);
        due("nothing has changed", x.takings(-1, 0), 20);
        due("pence", x.of(3, 5), 2);
    }

    private static void changeLeastBits() {
        PennyRates x = market();
        x.list(3);
        x.list(1);
        x.list(0);
        due("places, not numbers", x.change(52), 1);
        due("one of the others", x.change(36), 1);
        due("the second place", x.change(28), 1);
        due("two", x.change(60), 1 + 2);
        PennyRates y = market();
        y.list(0);
        y.list(1);
        y.list(2);
        due("0 and 1 do", y.change(44), 4);
        y.listless();
        y.list(0);
        y.list(1);
        due("0 and 1 alone", y.change(44), 3);
        y.withdraw(1);
        due("a withdrawn one on the list is of no use", y.change(44), -3);
        due("what is left", y.change(24), 1);
    }

    private static void changeKinds() {
        PennyRates x = new PennyRates();
        x.line(0, 0, 1, 10);
        Check.law(x, 0, 0, "most 4 30;good 14 4");
        x.special(0, 0, 1, 1, 14, 5);
        x.want(0, 1, 14, 10, 40);
        x.list(0);
        due("a special's most is its good's class's", x.change(300), 1);
        due("no more", x.change(301), -3);
        Check.law(x, 0, 0, "most 4 41");
        due("too dear for the want", x.change(300), -3);
        Check.law(x, 0, 0, "most 4 9999");
        x.line(0, 2, 3, 200);
        x.rate(0, 0, 2, 3, 1, 0, 5);
        x.want(2, 3, 5, 10, 999);
        x.list(1);
        due("9999 at most is too dear here", x.change(21), -3);
        due("as it is", x.change(20), 0);
        PennyRates y = new PennyRates();
        y.line(0, 0, 1, 10);
        Check.law(y, 0, 0, "most 0 30");
        Check.law(y, 0, 50, "most 0 40");
        y.rate(0, 0, 0, 1, 90, 0, 0);
        y.want(0, 1, 0, 10, 40);
        y.list(0);
        due("too dear as it is: lowered it ships", y.change(1), 1);
        due("300", y.change(300), 1);
        due("301", y.change(301), -3);
        y.pass(50);
        due("today's law", y.change(400), 1);
        y.rate(0, 0, 0, 1, 50, 60, 0);
        y.list(1);
        due("one not yet in print is of no use", y.change(401), -3);
        y.set(0, 3);
        y.list(2);
        due("a set may be raised", y.change(400), 4);
        due("the set as it is", y.change(30), 0);
    }

    /** Listed rates that stand in for one another: only together do they bring more. */
    private static void changeWhole() {
        PennyRates x = new PennyRates();
        Check.law(x, -1, 0, "most 0 30");
        x.line(0, 0, 1, 10);
        x.line(0, 1, 2, 10);
        for (int k = 0; k < 5; k++) {
            x.rate(0, 0, 0, 1, 5, 0, 0);
            x.rate(0, 0, 1, 2, 5, 0, 0);
        }
        for (int k = 0; k < 10; k++) {
            x.list(k);
        }
        x.want(0, 2, 0, 1, 50);
        for (int k = 1; k < 20; k++) {
            x.want(0, 1, 0, 1, k % 2 == 0 ? 30 : 4);
        }
        due("as it is", x.takings(-1, 0), 10 + 9 * 5);
        due("all that go from 0", x.change(56), 1 + 4 + 16 + 64 + 256);
        due("just these", x.change(35 + 9 * 30), 1 + 4 + 16 + 64 + 256);
        due("no more: all ten are too dear for the first", x.change(36 + 9 * 30), -3);
    }

    private static void friendsRefusals() {
        PennyRates x = new PennyRates();
        due("owner -1", x.friends(-1, 0, 0, 1, 0, 9, 0), -1);
        due("owner 6", x.friends(6, 0, 0, 1, 0, 9, 0), -1);
        due("good 20", x.friends(0, 20, 0, 1, 0, 9, 0), -1);
        due("from 16", x.friends(0, 0, 16, 1, 0, 9, 0), -1);
        due("to -1", x.friends(0, 0, 0, -1, 0, 9, 0), -1);
        due("what -1", x.friends(0, 0, 0, 1, 0, 9, -1), -1);
        due("what 4", x.friends(0, 0, 0, 1, 0, 9, 4), -1);
        due("NONE ahead of BAD", x.friends(0, 0, 0, 1, 9, 0, 4), -1);
        due("first -1", x.friends(0, 0, 0, 1, -1, 9, 0), -2);
        due("last 10000", x.friends(0, 0, 0, 1, 0, 10000, 0), -2);
        due("first above last", x.friends(0, 0, 0, 1, 9, 8, 0), -2);
        for (int what = 0; what < 4; what++) {
            due("none " + what, x.friends(0, 0, 0, 1, 0, 9999, what), 0);
            due("one station " + what, x.friends(0, 0, 1, 1, 9, 9, what), 0);
        }
    }

    private static void friends() {
        PennyRates x = new PennyRates();
        x.rate(0, 1, 0, 1, 5, 0, 0);
        x.rate(4, 1, 0, 1, 5, 0, 7);
        x.rate(0, 2, 0, 1, 5, 0, 0);
        x.rate(0, 1, 1, 0, 5, 0, 0);
        x.rate(0, 1, 0, 2, 5, 0, 0);
        x.pass(20);
        x.truck(0, 3, 3, 100, 5);
        x.truck(1, 3, 7, 100, 10);
        x.truck(0, 3, 2, 67, 7);
        for (int rate = 2; rate < 5; rate++) {
            x.truck(rate, 3, 1, 900, 7);
        }
        x.truck(0, 4, 1, 900, 7);
        x.truck(0, 3, 1, 900, 4);
        x.truck(0, 3, 1, 900, 11);
        due("three", x.friends(1, 3, 0, 1, 5, 10, 0), 3);
        due("the least a ton, cut", x.friends(1, 3, 0, 1, 5, 10, 1), 14);
        due("the greatest a ton, cut", x.friends(1, 3, 0, 1, 5, 10, 2), 33);
        // 33 a ton: 99 is less than 100, 231 is 131 more, 66 is less than 67.
        due("rebate", x.friends(1, 3, 0, 1, 5, 10, 3), 131);
        due("the first may be the least", x.friends(1, 3, 0, 1, 6, 10, 1), 14);
        x.truck(3, 9, 1, 4, 7);
        x.truck(3, 9, 1, 6, 7);
        due("the first is the least", x.friends(1, 9, 1, 0, 7, 7, 1), 4);
        due("the last is the greatest", x.friends(1, 9, 1, 0, 7, 7, 2), 6);
        due("one day", x.friends(1, 3, 0, 1, 10, 10, 0), 1);
        due("one day, no rebate", x.friends(1, 3, 0, 1, 10, 10, 3), 0);
        due("all days", x.friends(1, 3, 0, 1, 0, 9999, 2), 900);
        due("all days, rebate", x.friends(1, 3, 0, 1, 0, 9999, 3), 2600 + 6200 + 1733);
        due("another owner", x.friends(2, 3, 0, 1, 0, 9999, 0), 1);
        due("the other way", x.friends(1, 3, 1, 0, 0, 9999, 0), 1);
        due("another good", x.friends(1, 4, 0, 1, 0, 9999, 0), 1);
    }

    private static void friendsLimits() {
        PennyRates x = new PennyRates();
        x.rate(0, 0, 0, 1, 5, 0, 0);
        x.truck(0, 0, 1, 99999, 0);
        for (int k = 1; k < 80; k++) {
            x.truck(0, 0, 99, 0, 0);
        }
        due("the greatest rebate", x.friends(0, 0, 0, 1, 0, 0, 3), 79 * 99 * 99999);
        due("least 0", x.friends(0, 0, 0, 1, 0, 0, 1), 0);
    }
}
