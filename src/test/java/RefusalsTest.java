/**
 * What each call refuses: on each side the last number that is let through and the first that is not, what
 * is full, all refusals in the document's order whatever comes together, and that they change nothing.
 */
public final class RefusalsTest {
    private static final Check CHECK = new Check("RefusalsTest");
    private static final int NONE = -1, BAD = -2, STATE = -3, FULL = -4, NO_SUCH = -5;
    private static final int NOTHING = -11, CAST = -12, PLACE = -13, SIZE = -14;
    private static final int LEAST = Refusals.LEAST, GREATEST = Refusals.GREATEST;
    private static final int TODAY = 5, RATES = 12;

    public static void main(String[] args) {
        linesAndLaws();
        rateAndSpecial();
        ratesThatAre();
        chargeMostPart();
        trucksAndBooks();
        comparisons();
        cheapAndCry();
        wants();
        changes();
        friends();
        acts();
        tapes();
        shift();
        CHECK.end();
    }

    private static Refusals of(String name, Refusals.Setting ready, Refusals.Call call, int... good) {
        return new Refusals(CHECK, name, ready, call, good);
    }

    /**
     * Rates 0 to 4: one of each kind but 5 and 6, from 0 to 1, 10 miles by a line of owner 0. 5: withdrawn.
     * 7: set in place of boat 6. 9: a set in place of 8 that was undone. 10, 11: without a way, 11 a through.
     */
    private static void court(PennyRates x) {
        x.line(0, 0, 1, 10);
        x.rate(0, 0, 0, 1, 5, 0, 0);
        x.rate(1, 0, 0, 1, 6, 0, 0);
        x.special(0, 0, 1, 7, 0, 1);
        x.rate(3, 0, 0, 1, 8, 0, 0);
        x.rate(4, 0, 0, 1, 9, 0, 0);
        x.rate(0, 0, 0, 1, 5, 0, 0);
        x.rate(4, 0, 0, 1, 5, 0, 0);
        x.pass(TODAY);
        x.withdraw(5);
        x.set(6, 4);
        x.rate(0, 0, 0, 1, 5, TODAY, 0);
        x.set(8, 4);
        x.undo(9);
        x.rate(0, 0, 2, 3, 5, TODAY, 0);
        x.rate(1, 0, 2, 3, 5, TODAY, 0);
        x.truck(0, 0, 2, 11, TODAY);
        x.truck(0, 0, 2, 12, TODAY);
        x.truck(0, 1, 2, 12, TODAY);
        x.want(0, 1, 0, 2, 50);
        x.feed(0x6d696c65, 4);
        x.act(4, 2, 1);
    }

    private static void fillLines(PennyRates x) {
        while (x.count(1) < 40) {
            x.line(3, 14, 15, 9);
        }
    }

    /** All sixteen laws, and 'term 5' as the text. */
    private static void fillLaws(PennyRates x) {
        while (x.count(2) < 16) {
            x.law(0, 0);
            Check.feed(x, "term 5");
        }
    }

    private static void fillText(PennyRates x) {
        while (x.count(7) < 140) {
            x.feed('x', 1);
        }
    }

    private static void fillRates(PennyRates x) {
        while (x.count(3) < 60) {
            x.rate(0, 5, 14, 15, 5, 9999, 9);
        }
    }

    private static void fillTrucks(PennyRates x) {
        while (x.count(4) < 80) {
            x.truck(0, 19, 2, 11, 0);
        }
    }

    private static void fillWants(PennyRates x) {
        while (x.count(5) < 20) {
            x.want(0, 1, 0, 2, 50);
        }
    }

    /** Ten other rates than those of the court on the list. */
    private static void fillList(PennyRates x) {
        for (int k = 0; k < 10; k++) {
            x.list(x.rate(0, 0, 0, 1, 5, 9999, 9));
        }
    }

    private static void linesAndLaws() {
        of("pass", x -> x.pass(100), (x, a) -> x.pass(a[0]), 7)
            .lets(0, 101, 1).lets(0, 500, 400)
            .outside(BAD, 0, 1, 400)
            .state(BAD, RefusalsTest::passToTheEnd).go();
        of("line", RefusalsTest::court, (x, a) -> x.line(a[0], a[1], a[2], a[3]), 2, 3, 4, 50)
            .lets(0, 1, 0, 5).lets(1, 1, 0, 15).lets(2, 1, 0, 15).lets(3, 1, 1, 200)
            .outside(NONE, 0, 0, 5).outside(NONE, 1, 0, 15).outside(NONE, 2, 0, 15)
            .number(BAD, 2, 3).outside(BAD, 3, 1, 200)
            .state(FULL, RefusalsTest::fillLines).go();
        of("miles", RefusalsTest::court, (x, a) -> x.miles(a[0], a[1], a[2]), 0, 0, 1)
            .lets(0, 10, -1, 0).lets(1, 0, 1).lets(2, 0, 0)
            .outside(NONE, 0, -1, 5).outside(NONE, 1, 0, 15).outside(NONE, 2, 0, 15)
            .number(STATE, 2, 2, 15).go();
        of("miles", RefusalsTest::court, (x, a) -> x.miles(a[0], a[1], a[2]), 0, 0, 1)
            .lets(0, STATE, 1, 5).lets(1, STATE, 15).lets(2, STATE, 15).go();
        of("way", RefusalsTest::court, (x, a) -> x.way(a[0], a[1], a[2]), 0, 1, 0)
            .lets(2, 0, 0)
            .outside(NONE, 0, 0, 15).outside(NONE, 1, 0, 15).number(NONE, 1, 0, 2, 15)
            .outside(NONE, 2, 0, 0).go();
        of("feed", RefusalsTest::court, (x, a) -> x.feed(a[0], a[1]), 77, 2)
            .lets(1, 4, 0).lets(1, 8, 4).lets(0, 6, LEAST, GREATEST)
            .outside(BAD, 1, 0, 4)
            .state(FULL, RefusalsTest::fillText).go();
        of("law", x -> Check.feed(x, "term 5"), (x, a) -> x.law(a[0], a[1]), 0, 0)
            .lets(0, 0, -1, 0, 5).lets(1, 0, 0, 9999)
            .outside(NONE, 0, -1, 5).outside(BAD, 1, 0, 9999)
            .state(FULL, RefusalsTest::fillLaws)
            .changing(-17, x -> x.feed(';', 1)).go();
        of("holds", RefusalsTest::court, (x, a) -> x.holds(a[0], a[1], a[2]), 0, 0, 2)
            .lets(0, 1, -1, 5).lets(1, 1, 0, 9999).lets(2, -1, 0).lets(2, 0, 6).lets(2, 9999, 10, 19)
            .lets(2, 0, 20).lets(2, 9, 39)
            .outside(NO_SUCH, 0, -1, 5).outside(NO_SUCH, 1, 0, 9999)
            .number(NO_SUCH, 2, -1, 7, 8, 9, 40, LEAST, GREATEST).go();
    }

    private static void passToTheEnd(PennyRates x) {
        while (x.count(0) < 9700) {
            x.pass(300);
        }
        x.pass(299);
    }

    private static void rateAndSpecial() {
        of("rate", RefusalsTest::court, (x, a) -> x.rate(a[0], a[1], a[2], a[3], a[4], a[5], a[6]), 1, 2, 3, 4, 50, 9, 6)
            .lets(0, 12, 0, 1, 3, 4).lets(1, 12, 0, 5).lets(2, 12, 0, 15).lets(3, 12, 0, 15)
            .lets(4, 12, 0, 9999).lets(5, 12, TODAY, 9999).lets(6, 12, 0, 9)
            .outside(NONE, 1, 0, 5).outside(NONE, 2, 0, 15).outside(NONE, 3, 0, 15)
            .number(BAD, 0, -1, 2, 5, 6, 7, LEAST, GREATEST).number(BAD, 3, 3)
            .outside(BAD, 6, 0, 9).outside(BAD, 4, 0, 9999).outside(BAD, 5, TODAY, 9999)
            .state(FULL, RefusalsTest::fillRates).go();
        of("rate", RefusalsTest::court, (x, a) -> x.rate(a[0], a[1], a[2], a[3], a[4], a[5], a[6]), 3, 2, 3, 4, 50, 9, 6)
            .lets(4, 12, 0, 99)
            .outside(NONE, 1, 0, 5).outside(BAD, 4, 0, 99).number(BAD, 4, 9999)
            .state(FULL, RefusalsTest::fillRates).go();
        for (int kind : new int[] {0, 1, 4}) {
            of("rate", RefusalsTest::court, (x, a) -> x.rate(kind, a[0], 3, 4, a[1], 9, 6), 2, 50)
                .lets(1, 12, 0, 99, 100, 9999)
                .outside(NONE, 0, 0, 5).outside(BAD, 1, 0, 9999)
                .state(FULL, RefusalsTest::fillRates).go();
        }
        of("special", RefusalsTest::court, (x, a) -> x.special(a[0], a[1], a[2], a[3], a[4], a[5]), 2, 3, 4, 50, 7, 8)
            .lets(0, 12, 0, 5).lets(1, 12, 0, 15).lets(2, 12, 0, 15).lets(3, 12, 0, 9999)
            .lets(4, 12, 0, 19).lets(5, 12, 1, 99)
            .outside(NONE, 0, 0, 5).outside(NONE, 1, 0, 15).outside(NONE, 2, 0, 15).outside(NONE, 4, 0, 19)
            .number(BAD, 2, 3).outside(BAD, 3, 0, 9999).outside(BAD, 5, 1, 99)
            .state(FULL, RefusalsTest::fillRates).go();
    }

    private static void ratesThatAre() {
        of("withdraw", RefusalsTest::court, (x, a) -> x.withdraw(a[0]), 0)
            .lets(0, 1, 0, 1, 2, 3, 4, 8, 10, RATES - 1)
            .outside(NONE, 0, 0, RATES - 1).number(STATE, 0, 5, 6, 7, 9).go();
        of("set", RefusalsTest::court, (x, a) -> x.set(a[0], a[1]), 0, 50)
            .lets(0, 12, 0, 1, 2, 3, 4, 8, 10, RATES - 1).lets(1, 12, 0, 9999)
            .outside(NONE, 0, 0, 59).outside(BAD, 1, 0, 9999).number(STATE, 0, 5, 6, 7, 9)
            .state(FULL, RefusalsTest::fillRates).go();
        of("set of a toll", RefusalsTest::court, (x, a) -> x.set(a[0], a[1]), 3, 50)
            .lets(1, 12, 0, 99, 100, 9999)
            .number(NONE, 0, RATES).outside(BAD, 1, 0, 9999).go();
        of("undo", RefusalsTest::court, (x, a) -> x.undo(a[0]), 7)
            .lets(0, 6, 7)
            .outside(NONE, 0, 0, RATES - 1).number(CAST, 0, 0, 1, 2, 3, 4, 5, 6, 8, 9, 10, 11).go();
        of("of", RefusalsTest::court, (x, a) -> x.of(a[0], a[1]), 4, 0)
            .lets(0, 0, 0).lets(0, 1, RATES - 1).lets(1, 4, 0, 1).lets(1, -1, 8, 10).lets(1, 1, 9)
            .outside(NO_SUCH, 0, 0, RATES - 1).outside(NO_SUCH, 1, 0, 10).go();
    }

    /** Behind the court's: 12 of another class, 13 in print from tomorrow on, 14 a toll, 15 for 3 tons. */
    private static void courtThatServesNot(PennyRates x) {
        court(x);
        x.rate(0, 0, 0, 1, 5, TODAY, 1);
        x.rate(0, 0, 0, 1, 5, TODAY + 1, 0);
        x.rate(3, 1, 0, 1, 5, TODAY, 0);
        x.special(0, 0, 1, 5, 0, 3);
        x.special(0, 0, 1, 5, 10, 1);
    }

    private static void chargeMostPart() {
        of("charge", RefusalsTest::courtThatServesNot, (x, a) -> x.charge(a[0], a[1], a[2], a[3]), 0, 0, 2, TODAY)
            .lets(0, 10, 0, 8, 10, 11).lets(1, 10, 0, 10).lets(2, 5, 1).lets(2, 495, 99).lets(3, 10, 0, 9999)
            .outside(NONE, 0, 0, 16).outside(NONE, 1, 0, 19)
            .outside(BAD, 2, 1, 99).outside(BAD, 3, 0, 9999)
            .number(STATE, 0, 5, 6, 9, 12, 13, 14, 15, 16).go();
        of("charge", RefusalsTest::court, (x, a) -> x.charge(a[0], a[1], a[2], a[3]), 0, 0, 2, TODAY)
            .number(STATE, 1, 1, 9, 11, 19).go();
        of("most", RefusalsTest::court, (x, a) -> x.most(a[0], a[1], a[2]), 0, TODAY, 0)
            .lets(0, 9999, 0, 1, 2, 3, 4, 5, 6, 7, 8, 9).lets(1, 9999, 0, 9999).lets(2, 0, 1)
            .outside(NONE, 0, 0, RATES - 1).outside(NONE, 2, 0, 1).outside(BAD, 1, 0, 9999)
            .number(STATE, 0, 10, 11).go();
        of("most", RefusalsTest::court, (x, a) -> x.most(a[0], a[1], a[2]), 0, TODAY, 1)
            .lets(0, 0, 0, 7, 10, 11)
            .outside(NONE, 0, 0, RATES - 1).outside(NONE, 2, 0, 1).outside(BAD, 1, 0, 9999).go();
        of("part", RefusalsTest::court, (x, a) -> x.part(a[0], a[1], a[2]), 1, TODAY, 0)
            .lets(0, 6, 1).lets(0, 9, 4).lets(0, 5, 6).lets(1, 6, 0, 9999).lets(2, 0, 5)
            .outside(NONE, 0, 0, RATES - 1).outside(NONE, 2, 0, 5)
            .number(CAST, 0, 0, 2, 3, 5, 7, 8, 9, 10).outside(BAD, 1, 0, 9999)
            .number(STATE, 0, 11).go();
    }

    /** Tapes 0 to 3 of all sorts with a good truck each, 4 with nothing, 5 with a row without places. */
    private static void courtWithTapes(PennyRates x) {
        court(x);
        for (int tape = 0; tape < 4; tape++) {
            x.tape(tape, tape, 5);
            x.item(tape, 2, 1);
        }
        x.tape(5, 2, 0);
    }

    private static void trucksAndBooks() {
        of("truck", RefusalsTest::court, (x, a) -> x.truck(a[0], a[1], a[2], a[3], a[4]), 0, 0, 2, 50, 3)
            .lets(0, 3, 0, 5, 7, 9, RATES - 1).lets(1, 3, 0, 19).lets(2, 3, 1, 99).lets(3, 3, 0, 99999).lets(4, 3, 0, TODAY)
            .outside(NONE, 0, 0, RATES - 1).outside(NONE, 1, 0, 19)
            .outside(BAD, 2, 1, 99).outside(BAD, 3, 0, 99999).outside(BAD, 4, 0, TODAY)
            .state(FULL, RefusalsTest::fillTrucks).go();
        of("book", RefusalsTest::courtWithTapes, (x, a) -> x.book(a[0], a[1], a[2]), 2, 0, 1)
            .lets(0, 1, 2).lets(0, 0, 4, 5).lets(2, 1, 1, 2, 16).lets(1, 0, -1, 1, LEAST, GREATEST)
            .outside(NONE, 0, 0, 5).outside(BAD, 2, 1, 16).number(CAST, 0, 0, 1, 3).go();
        of("due", RefusalsTest::court, (x, a) -> x.due(a[0]), 0)
            .lets(0, 10, 0, 1)
            .outside(NONE, 0, 0, 2).number(STATE, 0, 2).go();
    }

    private static void comparisons() {
        of("unlike", RefusalsTest::court, (x, a) -> x.unlike(a[0], a[1], a[2]), 0, 1, 0)
            .lets(1, 0, 2).lets(2, 1, 0, 1)
            .outside(NONE, 0, 0, 2).outside(NONE, 1, 0, 2).number(BAD, 1, 0)
            .outside(NONE, 2, 0, 1).go();
        of("unlikes", RefusalsTest::court, (x, a) -> x.unlikes(a[0]), 0)
            .lets(0, 1, 0, 2).lets(0, 0, 1)
            .outside(NONE, 0, 0, 2).go();
        of("unlikes", x -> { }, (x, a) -> x.unlikes(a[0]), 0)
            .lets(0, 0, 0).number(NONE, 0, 1, 2).go();
        of("suit", RefusalsTest::court, (x, a) -> x.suit(a[0]), 0)
            .lets(0, 3, 0).lets(0, 0, 1, 15)
            .outside(PennyRates.NO, 0, 0, 15).go();
    }

    private static void cheapAndCry() {
        of("cheap", RefusalsTest::court, (x, a) -> x.cheap(a[0], a[1], a[2], a[3], a[4], a[5]), 0, 1, 0, 2, 3, 0)
            .lets(2, 10, 0, 10).lets(3, 5, 1).lets(3, 495, 99).lets(4, 10, 0).lets(4, 8, 9999).lets(5, 1, 1).lets(5, 0, 10)
            .outside(NONE, 0, 0, 15).outside(NONE, 1, 0, 15).outside(NONE, 2, 0, 19)
            .number(NONE, 5, -1, 2, 3, 9, LEAST)
            .number(BAD, 1, 0).outside(BAD, 3, 1, 99).outside(BAD, 4, 0, 9999)
            .number(STATE, 1, 2, 15)
            .number(NONE, 5, 11, 12, 17).go();
        of("cheap", RefusalsTest::court, (x, a) -> x.cheap(a[0], a[1], a[2], a[3], a[4], a[5]), 0, 1, 0, 2, 3, 0)
            .lets(0, STATE, 15).lets(1, STATE, 15).lets(2, STATE, 19).lets(5, NONE, 18, GREATEST).go();
        of("cry", RefusalsTest::courtOfCries, (x, a) -> x.cry(a[0], a[1], a[2], a[3], a[4]), 0, 1, 0, 2, TODAY)
            .lets(0, 0, 0).lets(2, 0, 0, 10).lets(3, 0, 1, 99).lets(4, 0, 0, 9999)
            .outside(NONE, 0, 0, 15).outside(NONE, 1, 0, 15).outside(NONE, 2, 0, 19)
            .numbers(BAD, 0, 1, 2, 2).outside(BAD, 3, 1, 99).outside(BAD, 4, 0, 9999)
            .number(STATE, 0, 2, 4, 15).go();
        of("cry", RefusalsTest::courtOfCries, (x, a) -> x.cry(a[0], a[1], a[2], a[3], a[4]), 0, 1, 0, 2, TODAY)
            .lets(1, STATE, 15).lets(2, STATE, 19).go();
    }

    /** From 4 to 1 there is a way, but no charge; from 2 a charge, but no way. */
    private static void courtOfCries(PennyRates x) {
        court(x);
        x.line(0, 4, 1, 10);
        x.rate(0, 0, 2, 1, 5, TODAY, 0);
    }

    private static void wants() {
        of("want", RefusalsTest::court, (x, a) -> x.want(a[0], a[1], a[2], a[3], a[4]), 3, 4, 5, 6, 7)
            .lets(0, 1, 0, 15).lets(1, 1, 0, 15).lets(2, 1, 0, 19).lets(3, 1, 1, 99).lets(4, 1, 0, 999)
            .outside(NONE, 0, 0, 15).outside(NONE, 1, 0, 15).outside(NONE, 2, 0, 19)
            .number(BAD, 1, 3).outside(BAD, 3, 1, 99).outside(BAD, 4, 0, 999)
            .state(FULL, RefusalsTest::fillWants).go();
        of("ships", RefusalsTest::court, (x, a) -> x.ships(a[0], a[1]), 0, 3)
            .lets(0, 1, 0).lets(1, 1, 0, 9999)
            .outside(NONE, 0, 0, 0).outside(BAD, 1, 0, 9999).go();
        of("ships", x -> { }, (x, a) -> x.ships(a[0], a[1]), 0, 3)
            .number(NONE, 0, -1, 0, 1).go();
        of("takings", RefusalsTest::court, (x, a) -> x.takings(a[0], a[1]), 0, 3)
            .lets(0, 10, -1, 0).lets(0, 0, 5).lets(1, 10, 0).lets(1, 8, 9999)
            .outside(NONE, 0, -1, 5).outside(BAD, 1, 0, 9999).go();
        of("tries", RefusalsTest::court, (x, a) -> x.tries(a[0], a[1], a[2]), 0, 3, TODAY)
            .lets(0, 6, 0, 1, 2, 3, 4, 7, 8).lets(0, 8, 10, 11).lets(1, 0, 0).lets(1, 8, 100, 9999)
            .lets(2, 6, 0, 9999)
            .outside(NONE, 0, 0, RATES - 1).outside(BAD, 1, 0, 9999).outside(BAD, 2, 0, 9999)
            .number(STATE, 0, 5, 6, 9).go();
        of("tries of a toll", RefusalsTest::court, (x, a) -> x.tries(a[0], a[1], a[2]), 3, 3, TODAY)
            .lets(1, 0, 0).lets(1, 8, 99)
            .outside(BAD, 1, 0, 99).number(BAD, 1, 9999).outside(BAD, 2, 0, 9999)
            .state(STATE, x -> x.withdraw(3)).go();
    }

    private static void changes() {
        of("list", RefusalsTest::court, (x, a) -> x.list(a[0]), 0)
            .lets(0, 1, 0, 1, 2, 4, 7, 8)
            .outside(NONE, 0, 0, 59).number(STATE, 0, 3, 5, 6, 9, 10, 11)
            .state(FULL, RefusalsTest::fillList).go();
        of("list with rate 0 on it", x -> {
            court(x);
            x.list(0);
        }, (x, a) -> x.list(a[0]), 1)
            .lets(0, 2, 1, 2, 4)
            .number(NONE, 0, RATES).number(STATE, 0, 0).go();
        of("list with rate 0 on it and full", x -> {
            court(x);
            x.list(0);
            fillList(x);
        }, (x, a) -> x.list(a[0]), 1)
            .lets(0, FULL, 1, 2, 4)
            .number(NONE, 0, -1, RATES + 10, GREATEST).number(STATE, 0, 0, 3, 5, 10).go();
        of("change", RefusalsTest::court, (x, a) -> x.change(a[0]), 0)
            .lets(0, 0, 0, 8)
            .number(BAD, 0, -1, LEAST).number(STATE, 0, 9, GREATEST).go();
    }

    private static void friends() {
        of("friends", RefusalsTest::court, (x, a) -> x.friends(a[0], a[1], a[2], a[3], a[4], a[5], a[6]), 0, 0, 0, 1, 4, 6, 0)
            .lets(0, 0, 5).lets(1, 1, 1).lets(1, 0, 19).lets(2, 0, 15).lets(3, 0, 15)
            .lets(4, 2, 0, 4, 5).lets(4, 0, 6).lets(5, 0, 4).lets(5, 2, 5, 9999)
            .lets(6, 2, 0).lets(6, 5, 1).lets(6, 6, 2).lets(6, 1, 3)
            .outside(NONE, 0, 0, 5).outside(NONE, 1, 0, 19).outside(NONE, 2, 0, 15).outside(NONE, 3, 0, 15)
            .outside(NONE, 6, 0, 3)
            .number(BAD, 4, -1, 7, 10000, LEAST, GREATEST).number(BAD, 5, -1, 3, 10000, LEAST, GREATEST).go();
        of("friends", RefusalsTest::court, (x, a) -> x.friends(0, 0, 0, 1, a[0], a[1], a[2]), 0, 9999, 0)
            .lets(0, 2, 0, 1).lets(0, 0, 9999).lets(1, 0, 0).lets(1, 2, 9998)
            .outside(NONE, 2, 0, 3).outside(BAD, 0, 0, 9999).outside(BAD, 1, 0, 9999).go();
    }

    private static void acts() {
        of("trace", RefusalsTest::court, (x, a) -> x.trace(a[0]), 0)
            .lets(0, 50, 0).lets(0, 10, 9)
            .outside(NONE, 0, 0, 9).go();
        of("taken", RefusalsTest::court, (x, a) -> x.taken(a[0], a[1]), 4, 1)
            .lets(0, 1, 1, 11).lets(1, 4, 0, 1, 4)
            .outside(BAD, 1, 0, 6).outside(NOTHING, 0, 0, RATES - 1)
            .number(CAST, 1, 2, 3, 5, 6).go();
        of("taken", RefusalsTest::court, (x, a) -> x.taken(a[0], a[1]), 5, 6)
            .lets(0, 6, 5, 6, 9).lets(1, 6, 0, 6)
            .outside(BAD, 1, 0, 6).outside(NOTHING, 0, 0, RATES - 1)
            .number(CAST, 0, 0, 1, 2, 3, 4, 7, 8, 10, 11).go();
        of("count", RefusalsTest::court, (x, a) -> x.count(a[0]), 0)
            .lets(0, 5, 0).lets(0, 10, 8)
            .outside(BAD, 0, 0, 8).go();
    }

    private static void tapes() {
        of("tape", RefusalsTest::courtWithTapes, (x, a) -> x.tape(a[0], a[1], a[2]), 2, 1, 7)
            .lets(0, 1, 0, 5).lets(1, 1, -1, 0, 3).lets(2, 1, 0, 80)
            .outside(NONE, 0, 0, 5).outside(BAD, 1, -1, 3).number(BAD, 2, 81, GREATEST)
            .number(SIZE, 2, -1, LEAST).go();
        of("tape without a row", RefusalsTest::courtWithTapes, (x, a) -> x.tape(a[0], -1, a[1]), 2, 7)
            .lets(1, 1, -1, 0, 80, 81, LEAST, GREATEST)
            .outside(NONE, 0, 0, 5).go();
        of("item", RefusalsTest::courtWithTapes, (x, a) -> x.item(a[0], a[1], a[2]), 2, 3, 9)
            .lets(0, 1, 0, 3).lets(1, 1, 0, 4).lets(2, 1, LEAST, GREATEST)
            .outside(NONE, 0, 0, 5).number(NOTHING, 0, 4).outside(PLACE, 1, 0, 4).number(PLACE, 0, 5).go();
        of("read", RefusalsTest::courtWithTapes, (x, a) -> x.read(a[0], a[1]), 2, 2)
            .lets(0, 1, 0, 3).lets(1, 0, 0, 4)
            .outside(PennyRates.NO, 0, 0, 5).number(PennyRates.NO, 0, 4, 5).outside(PennyRates.NO, 1, 0, 4).go();
    }

    private static void shift() {
        of("shift", x -> {
            courtWithTapes(x);
            x.tape(1, 2, 7);
        }, (x, a) -> x.shift(a[0], a[1], a[2], a[3], a[4]), 2, 1, 1, 2, 3)
            .lets(1, 3, 0, 2).lets(3, 3, 0, 4).lets(4, 0, 0).lets(4, 4, 4).lets(2, 3, 1, 2)
            .outside(NONE, 0, 0, 5).outside(NONE, 2, 0, 5)
            .number(NOTHING, 0, 4).number(NOTHING, 2, 4)
            .number(CAST, 0, 0).number(CAST, 2, 3)
            .number(PLACE, 4, -1, 6, LEAST, GREATEST)
            .number(PLACE, 1, -1, 6, LEAST, GREATEST)
            .number(PLACE, 3, -1, 8, LEAST, GREATEST).go();
        of("shift", x -> {
            courtWithTapes(x);
            x.tape(1, 2, 7);
        }, (x, a) -> x.shift(2, a[0], 1, a[1], a[2]), 1, 2, 3)
            .number(PLACE, 0, 3).number(PLACE, 1, 5).number(PLACE, 2, 5).go();
        of("shift", RefusalsTest::courtWithTapes, (x, a) -> x.shift(a[0], 1, a[1], 2, 3), 2, 2)
            .lets(0, 3, 2)
            .number(CAST, 0, 0, 1, 3).go();
        of("shift", RefusalsTest::courtWithTapes, (x, a) -> x.shift(a[0], 1, a[1], 2, 3), 2, 2)
            .number(CAST, 1, 0, 1, 3).go();
    }
}
