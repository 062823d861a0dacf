/** Promises 9 to 17: rate, special, withdraw, set, undo, of, charge, most, part. */
public final class RatesTest {
    private static final Check CHECK = new Check("RatesTest");

    private static void due(String call, long got, long want) {
        CHECK.due(call, got, want);
    }

    public static void main(String[] args) {
        rateRefusals();
        ratesFull();
        ratePrint();
        special();
        withdraw();
        set();
        setOfSpecial();
        undo();
        of();
        chargeRefusals();
        chargeByLaw();
        chargeOfToll();
        most();
        over();
        partRefusals();
        partByMiles();
        partEven();
        CHECK.end();
    }

    private static void rateRefusals() {
        PennyRates x = new PennyRates();
        x.pass(5);
        due("owner -1", x.rate(0, -1, 0, 1, 5, 5, 0), -1);
        due("owner 6", x.rate(0, 6, 0, 1, 5, 5, 0), -1);
        due("from -1", x.rate(0, 0, -1, 1, 5, 5, 0), -1);
        due("from 16", x.rate(0, 0, 16, 1, 5, 5, 0), -1);
        due("to -1", x.rate(0, 0, 1, -1, 5, 5, 0), -1);
        due("to 16", x.rate(0, 0, 1, 16, 5, 5, 0), -1);
        due("NONE ahead of BAD", x.rate(9, 0, 16, 16, -5, 4, 10), -1);
        for (int kind : new int[] {-1, 2, 5, 6, 7}) {
            due("kind " + kind, x.rate(kind, 0, 0, 1, 5, 5, 0), -2);
        }
        due("one station", x.rate(0, 0, 1, 1, 5, 5, 0), -2);
        due("class -1", x.rate(0, 0, 0, 1, 5, 5, -1), -2);
        due("class 10", x.rate(0, 0, 0, 1, 5, 5, 10), -2);
        due("pence -1", x.rate(0, 0, 0, 1, -1, 5, 0), -2);
        due("pence 10000", x.rate(0, 0, 0, 1, 10000, 5, 0), -2);
        due("tenths -1", x.rate(3, 0, 0, 1, -1, 5, 0), -2);
        due("tenths 100", x.rate(3, 0, 0, 1, 100, 5, 0), -2);
        due("day ahead of today", x.rate(0, 0, 0, 1, 5, 4, 0), -2);
        due("day 10000", x.rate(0, 0, 0, 1, 5, 10000, 0), -2);
        due("none came", x.count(3), 0);
        due("a rate", x.rate(0, 0, 0, 1, 9999, 5, 9), 0);
        due("a through", x.rate(1, 5, 15, 0, 0, 9999, 0), 1);
        due("a toll", x.rate(3, 0, 0, 1, 99, 5, 0), 2);
        due("a boat", x.rate(4, 0, 0, 1, 100, 5, 0), 3);
        due("four", x.count(3), 4);
    }

    private static void ratesFull() {
        PennyRates x = new PennyRates();
        for (int k = 0; k < 59; k++) {
            due("rate " + k, x.rate(0, 0, 0, 1, 5, 0, 0), k);
        }
        due("special 59", x.special(0, 0, 1, 5, 0, 1), 59);
        due("rate 60", x.rate(0, 0, 0, 1, 5, 0, 0), -4);
        due("rate 60 BAD", x.rate(2, 0, 0, 1, 5, 0, 0), -2);
        due("special 60", x.special(0, 0, 1, 5, 0, 1), -4);
        due("special 60 NONE", x.special(0, 0, 1, 5, 20, 1), -1);
        due("set 60", x.set(3, 5), -4);
        due("set 60 changes nothing", x.of(3, 0), 0);
        due("set 60 STATE", x.withdraw(4) == 1 ? x.set(4, 5) : 0, -3);
        due("set 60 BAD", x.set(3, 10000), -2);
        due("sixty", x.count(3), 60);
    }

    private static void ratePrint() {
        PennyRates x = new PennyRates();
        x.pass(10);
        Check.law(x, 2, 10, "notice 7");
        Check.law(x, -1, 0, "notice 3");
        x.rate(0, 2, 0, 1, 5, 10, 0);
        x.rate(0, 2, 0, 1, 5, 16, 0);
        x.rate(0, 2, 0, 1, 5, 18, 0);
        x.rate(0, 1, 0, 1, 5, 10, 0);
        x.special(2, 0, 1, 5, 0, 1);
        due("notice of its owner", x.of(0, 7), 17);
        due("notice beyond the day", x.of(1, 7), 17);
        due("the day beyond notice", x.of(2, 7), 18);
        due("notice of the court", x.of(3, 7), 13);
        due("a special's", x.of(4, 7), 17);
        due("ahead of print", x.charge(0, 0, 1, 16), -3);
        due("in print", x.charge(0, 0, 1, 17), 5);
        Check.law(x, 2, 10, "notice 9999");
        x.rate(0, 2, 0, 1, 5, 10, 0);
        due("beyond all days", x.of(5, 7), 10009);
        due("never in print", x.charge(5, 0, 1, 9999), -3);
    }

    private static void special() {
        PennyRates x = new PennyRates();
        due("owner", x.special(6, 0, 1, 5, 0, 1), -1);
        due("from", x.special(0, 16, 1, 5, 0, 1), -1);
        due("to", x.special(0, 0, -1, 5, 0, 1), -1);
        due("good -1", x.special(0, 0, 1, 5, -1, 1), -1);
        due("good 20", x.special(0, 0, 1, 5, 20, 1), -1);
        due("NONE ahead of BAD", x.special(0, 0, 0, -5, 20, 0), -1);
        due("one station", x.special(0, 1, 1, 5, 0, 1), -2);
        due("pence -1", x.special(0, 0, 1, -1, 0, 1), -2);
        due("pence 10000", x.special(0, 0, 1, 10000, 0, 1), -2);
        due("least 0", x.special(0, 0, 1, 5, 0, 0), -2);
        due("least 100", x.special(0, 0, 1, 5, 0, 100), -2);
        due("none came", x.count(3), 0);
        due("a special", x.special(0, 0, 1, 7, 12, 10), 0);
        due("too few tons", x.charge(0, 12, 9, 0), -3);
        due("enough tons", x.charge(0, 12, 10, 0), 70);
        due("another good of its class", x.charge(0, 2, 10, 0), -3);
        due("least 99", x.special(0, 0, 1, 9999, 19, 99), 1);
        due("99 tons", x.charge(1, 19, 99, 0), 99 * 9999);
        Check.law(x, 0, 0, "good 12 5;term 2");
        due("its class does not matter", x.charge(0, 12, 10, 0), 90);
    }

    private static void withdraw() {
        PennyRates x = new PennyRates();
        due("none", x.withdraw(0), -1);
        x.rate(0, 0, 0, 1, 5, 0, 0);
        x.rate(4, 0, 0, 1, 6, 30, 0);
        x.pass(10);
        due("-1", x.withdraw(-1), -1);
        due("2", x.withdraw(2), -1);
        due("it goes", x.withdraw(0), 1);
        due("again", x.withdraw(0), -3);
        due("its kind", x.of(0, 0), 6);
        due("what it was", x.of(0, 1), 0);
        due("from which it is not", x.of(0, 8), 10);
        due("the day ahead", x.charge(0, 0, 1, 9), 5);
        due("out of print", x.charge(0, 0, 1, 10), -3);
        due("one not yet in print", x.withdraw(1), 1);
        due("never in print", x.charge(1, 0, 1, 30), -3);
        due("nor ahead", x.charge(1, 0, 1, 9), -3);
        x.rate(0, 0, 0, 1, 5, 10, 0);
        due("a set", x.set(2, 4), 3);
        due("a set stays", x.withdraw(3), -3);
        x.undo(3);
        due("an undone set is withdrawn", x.withdraw(3), -3);
        due("what it was set for may go", x.withdraw(2), 1);
    }

    private static void set() {
        PennyRates x = new PennyRates();
        due("none", x.set(0, 5), -1);
        Check.law(x, -1, 0, "notice 20");
        x.pass(30);
        x.rate(0, 3, 4, 5, 50, 30, 7);
        due("it waits for print", x.of(0, 7), 50);
        due("NONE ahead of BAD", x.set(1, -1), -1);
        due("pence -1", x.set(0, -1), -2);
        due("pence 10000", x.set(0, 10000), -2);
        due("a set", x.set(0, 44), 1);
        due("kind", x.of(1, 0), 5);
        due("was", x.of(1, 1), 5);
        due("owner", x.of(1, 2), 3);
        due("from", x.of(1, 3), 4);
        due("to", x.of(1, 4), 5);
        due("pence", x.of(1, 5), 44);
        due("class", x.of(1, 6), 7);
        due("without notice", x.of(1, 7), 30);
        due("in print still", x.of(1, 8), -1);
        due("least", x.of(1, 9), 1);
        due("in place of", x.of(1, 10), 0);
        due("the rate", x.of(0, 0), 6);
        due("the rate is out of print", x.of(0, 8), 30);
        due("BAD ahead of STATE", x.set(0, -1), -2);
        due("a withdrawn one", x.set(0, 1), -3);
        due("a set of a set", x.set(1, 1), -3);
        due("the charge", x.charge(1, 17, 2, 30), 88);
        due("no charge ahead", x.charge(1, 17, 2, 29), -3);
        x.rate(3, 3, 4, 5, 50, 30, 7);
        due("of a toll in pence", x.set(2, 9999), 3);
        due("a set is no toll", x.charge(3, 7, 1, 30), 9999);
    }

    private static void setOfSpecial() {
        PennyRates x = new PennyRates();
        Check.law(x, 2, 5, "good 14 8");
        Check.law(x, 2, 20, "good 14 9");
        x.special(2, 0, 1, 30, 14, 50);
        x.pass(10);
        due("a set", x.set(0, 3), 1);
        due("the good's class today", x.of(1, 6), 8);
        due("least is 1", x.of(1, 9), 1);
        due("it serves the class", x.charge(1, 8, 1, 10), 3);
        due("its good", x.charge(1, 14, 1, 10), 3);
        due("no more by a later law", x.charge(1, 14, 1, 20), -3);
        due("the special's good is known", x.of(0, 6), 14);
        due("the special's least is known", x.of(0, 9), 50);
        due("undone", x.undo(1), 0);
        due("a special again", x.of(0, 0), 2);
        due("with its least", x.charge(0, 14, 49, 10), -3);
        due("with its good", x.charge(0, 14, 50, 10), 1500);
    }

    private static void undo() {
        PennyRates x = new PennyRates();
        due("none", x.undo(0), -1);
        x.rate(1, 0, 0, 1, 5, 0, 0);
        due("-1", x.undo(-1), -1);
        due("no set", x.undo(0), -12);
        x.pass(10);
        x.set(0, 4);
        x.pass(10);
        due("the withdrawn one is none", x.undo(0), -12);
        due("undone", x.undo(1), 0);
        due("the set is withdrawn", x.of(1, 0), 6);
        due("it was one", x.of(1, 1), 5);
        due("from today on", x.of(1, 8), 20);
        due("again", x.undo(1), -12);
        due("the rate's kind", x.of(0, 0), 1);
        due("the rate is in print", x.of(0, 8), -1);
        due("the rate's charge, as if it had not been", x.charge(0, 0, 1, 15), 5);
        due("the set's charge till today", x.charge(1, 0, 1, 19), 4);
        due("the set's charge from today", x.charge(1, 0, 1, 20), -3);
        due("set again", x.set(0, 3), 2);
        due("in place of the same", x.of(2, 10), 0);
        due("undone again", x.undo(2), 0);
        x.withdraw(0);
        due("a withdrawn one is no set", x.undo(0), -12);
    }

    private static void of() {
        PennyRates x = new PennyRates();
        due("no rate", x.of(0, 0), -5);
        x.pass(3);
        x.rate(4, 2, 14, 15, 77, 8, 6);
        x.special(1, 3, 2, 66, 18, 45);
        int[] boat = {4, 4, 2, 14, 15, 77, 6, 8, -1, 1, -1};
        int[] special = {2, 2, 1, 3, 2, 66, 18, 3, -1, 45, -1};
        for (int what = 0; what <= 10; what++) {
            due("boat " + what, x.of(0, what), boat[what]);
            due("special " + what, x.of(1, what), special[what]);
        }
        due("what -1", x.of(0, -1), -5);
        due("what 11", x.of(0, 11), -5);
        due("rate -1", x.of(-1, 0), -5);
        due("rate 2", x.of(2, 0), -5);
    }

    private static void chargeRefusals() {
        PennyRates x = new PennyRates();
        due("no rate", x.charge(0, 0, 1, 0), -1);
        x.rate(0, 0, 0, 1, 5, 0, 3);
        due("rate -1", x.charge(-1, 3, 1, 0), -1);
        due("good -1", x.charge(0, -1, 1, 0), -1);
        due("good 20", x.charge(0, 20, 1, 0), -1);
        due("NONE ahead of BAD", x.charge(0, 20, 0, -1), -1);
        due("tons 0", x.charge(0, 3, 0, 0), -2);
        due("tons 100", x.charge(0, 3, 100, 0), -2);
        due("day -1", x.charge(0, 3, 1, -1), -2);
        due("day 10000", x.charge(0, 3, 1, 10000), -2);
        due("BAD ahead of STATE", x.charge(0, 4, 0, 0), -2);
        due("another class", x.charge(0, 4, 1, 0), -3);
        due("its class", x.charge(0, 13, 99, 9999), 495);
        x.rate(0, 0, 0, 1, 0, 0, 3);
        due("for nothing", x.charge(1, 13, 99, 0), 0);
    }

    private static void chargeByLaw() {
        PennyRates x = new PennyRates();
        x.rate(0, 0, 0, 1, 5, 0, 3);
        x.rate(0, 1, 0, 1, 5, 0, 3);
        Check.law(x, 0, 10, "good 4 3;good 3 9;term 2;small 8");
        due("by the law of the day", x.charge(0, 3, 1, 9), 5);
        due("no more", x.charge(0, 3, 1, 10), -3);
        due("another good", x.charge(0, 4, 7, 10), 56);
        due("just small", x.charge(0, 4, 8, 10), 56);
        due("more", x.charge(0, 4, 9, 10), 63);
        due("another owner's law is not it", x.charge(1, 3, 1, 10), 5);
        Check.law(x, 0, 20, "small 500");
        due("99 tons at most", x.charge(0, 3, 1, 20), 99 * 5);
        Check.law(x, 0, 30, "small 0;term 9999");
        due("small 0", x.charge(0, 3, 1, 30), 10004);
        x.special(0, 0, 1, 4, 3, 5);
        Check.law(x, 0, 40, "small 20");
        due("least is asked of the tons themselves", x.charge(2, 3, 4, 40), -3);
        due("small for a special", x.charge(2, 3, 5, 40), 80);
    }

    private static void chargeOfToll() {
        PennyRates x = new PennyRates();
        x.rate(3, 0, 0, 2, 99, 0, 3);
        due("no way", x.charge(0, 3, 1, 0), -3);
        x.line(0, 0, 1, 7);
        x.line(1, 1, 2, 1);
        due("no way by its own lines", x.charge(0, 3, 1, 0), -3);
        x.line(0, 1, 2, 6);
        due("13 miles, cut", x.charge(0, 3, 1, 0), 128);
        due("cut ahead of tons", x.charge(0, 3, 10, 0), 1280);
        Check.law(x, 0, 0, "term 5");
        due("term is behind the cut", x.charge(0, 3, 10, 0), 1330);
        due("another class", x.charge(0, 4, 10, 0), -3);
    }

    private static void most() {
        PennyRates x = new PennyRates();
        due("no rate", x.most(0, 0, 0), -1);
        x.rate(0, 0, 0, 2, 50, 0, 3);
        due("what -1", x.most(0, 0, -1), -1);
        due("what 2", x.most(0, 0, 2), -1);
        due("NONE ahead of BAD", x.most(0, -1, 2), -1);
        due("day -1", x.most(0, -1, 0), -2);
        due("day 10000", x.most(0, 10000, 1), -2);
        due("no way", x.most(0, 0, 0), -3);
        due("not over without", x.most(0, 0, 1), 0);
        x.line(4, 0, 1, 6);
        x.line(5, 2, 1, 7);
        due("13 miles by any lines", x.most(0, 0, 0), 13 * 9999 / 10);
        Check.law(x, 0, 5, "most 3 25;most 8 11;good 17 8");
        due("by the law of the day", x.most(0, 4, 0), 13 * 9999 / 10);
        due("cut", x.most(0, 5, 0), 32);
        x.special(0, 0, 2, 50, 17, 1);
        due("of a special's good", x.most(1, 5, 0), 14);
        due("of a special's good by the law of the day", x.most(1, 4, 0), 13 * 9999 / 10);
        x.withdraw(0);
        due("withdrawn, yet it has a most", x.most(0, 5, 0), 32);
        due("a set has one", x.set(1, 9999) == 2 ? x.most(2, 5, 0) : 0, 13 * 9999 / 10);
    }

    private static void over() {
        PennyRates x = new PennyRates();
        x.line(0, 0, 1, 10);
        Check.law(x, -1, 0, "most 3 20");
        x.rate(0, 0, 0, 1, 20, 0, 3);
        x.rate(0, 0, 0, 1, 21, 0, 3);
        x.rate(3, 0, 0, 1, 99, 0, 3);
        x.rate(3, 1, 0, 1, 99, 0, 3);
        x.rate(1, 0, 0, 1, 9999, 0, 3);
        due("just most", x.most(0, 0, 1), 0);
        due("one over", x.most(1, 0, 1), 1);
        Check.law(x, -1, 1, "most 3 0");
        due("no pence are lawful", x.most(1, 1, 0), 0);
        due("all are over", x.most(1, 1, 1), 21);
        due("a toll", x.most(2, 0, 1), 79);
        due("a toll without a way of its own", x.most(3, 0, 1), 0);
        due("a through", x.most(4, 0, 1), 9979);
        x.set(4, 9999);
        due("a set is never", x.most(5, 0, 1), 0);
        due("nor one withdrawn", x.most(4, 0, 1), 0);
        x.undo(5);
        due("over again", x.most(4, 0, 1), 9979);
        x.pass(5);
        x.withdraw(1);
        due("nor on a day ahead", x.most(1, 0, 1), 0);
    }

    private static void partRefusals() {
        PennyRates x = new PennyRates();
        due("no rate", x.part(0, 0, 0), -1);
        x.rate(0, 0, 0, 2, 50, 0, 3);
        x.rate(1, 0, 0, 2, 50, 0, 3);
        x.rate(4, 0, 0, 2, 50, 0, 3);
        x.rate(3, 0, 0, 2, 50, 0, 3);
        x.special(0, 0, 2, 50, 0, 3);
        due("owner -1", x.part(1, 0, -1), -1);
        due("owner 6", x.part(1, 0, 6), -1);
        due("NONE ahead of CAST", x.part(0, 0, 6), -1);
        due("a rate", x.part(0, 0, 0), -12);
        due("a toll", x.part(3, 0, 0), -12);
        due("a special", x.part(4, 0, 0), -12);
        due("CAST ahead of BAD", x.part(0, -1, 0), -12);
        due("day -1", x.part(1, -1, 0), -2);
        due("day 10000", x.part(2, 10000, 0), -2);
        due("no way", x.part(1, 0, 0), -3);
        due("no way of a boat", x.part(2, 0, 0), -3);
        x.line(3, 0, 2, 5);
        due("all of it", x.part(1, 0, 3), 50);
        due("none of it", x.part(1, 0, 0), 0);
        x.withdraw(1);
        due("what it was", x.part(1, 0, 3), 50);
        x.set(2, 5);
        due("a set", x.part(5, 0, 3), -12);
        due("in place of a boat", x.part(2, 0, 3), 50);
    }

    private static void partByMiles() {
        PennyRates x = new PennyRates();
        x.line(5, 0, 1, 1);
        x.line(2, 1, 2, 1);
        x.line(4, 2, 3, 1);
        x.line(2, 3, 4, 4);
        x.rate(1, 0, 0, 4, 10, 0, 0);
        x.rate(4, 1, 4, 0, 11, 0, 0);
        x.rate(1, 0, 0, 4, 0, 0, 0);
        Check.law(x, 0, 3, "miles");
        Check.law(x, 1, 0, "miles");
        // 10 by 7: owner 2 has 5 miles: 50/7 = 7 and 1 left; owners 4, 5 1 mile: 1 and 3 left.
        due("2 of 10", x.part(0, 3, 2), 7);
        due("4 of 10", x.part(0, 3, 4), 2);
        due("5 of 10", x.part(0, 3, 5), 1);
        // 11: owner 2 55/7 = 7 and 6 left; owners 4, 5 11/7 = 1 and 4 left; two are left over.
        due("2 of 11", x.part(1, 0, 2), 8);
        due("4 of 11", x.part(1, 0, 4), 2);
        due("5 of 11", x.part(1, 0, 5), 1);
        due("others", x.part(1, 0, 0), 0);
        due("even till then", x.part(0, 2, 2), 4);
        due("even till then", x.part(0, 2, 4), 3);
        due("nothing to part", x.part(2, 3, 2), 0);
    }

    private static void partEven() {
        PennyRates x = new PennyRates();
        x.line(5, 0, 1, 100);
        x.line(1, 1, 2, 1);
        x.line(3, 2, 3, 1);
        x.rate(1, 0, 0, 3, 11, 0, 0);
        x.rate(1, 0, 0, 3, 10, 0, 0);
        x.rate(1, 0, 0, 3, 9, 0, 0);
        int[][] shares = {{4, 4, 3}, {4, 3, 3}, {3, 3, 3}};
        for (int r = 0; r < 3; r++) {
            due("1 of rate " + r, x.part(r, 0, 1), shares[r][0]);
            due("3 of rate " + r, x.part(r, 0, 3), shares[r][1]);
            due("5 of rate " + r, x.part(r, 0, 5), shares[r][2]);
            due("0 of rate " + r, x.part(r, 0, 0), 0);
        }
        x.line(0, 3, 4, 1);
        x.rate(1, 0, 2, 4, 7, 0, 0);
        due("owner 0 has one more", x.part(3, 0, 0), 4);
        due("owner 3", x.part(3, 0, 3), 3);
        due("owner 5 is not on this way", x.part(3, 0, 5), 0);
        due("nor is owner 1", x.part(3, 0, 1), 0);
    }
}
