/** All that can be asked of an object, as one number: two prints are alike if nothing was changed between. */
final class Print {
    private long sum = 0;

    private Print() {
    }

    static long of(PennyRates x) {
        Print print = new Print();
        print.counts(x);
        print.roads(x);
        print.laws(x);
        print.rates(x);
        print.trucks(x);
        print.wants(x);
        print.tapes(x);
        return print.sum;
    }

    private void add(long answer) {
        sum = sum * 31 + answer;
    }

    private void counts(PennyRates x) {
        for (int what = 0; what < 9; what++) {
            add(x.count(what));
        }
        for (int k = 0; k < 20; k++) {
            add(x.trace(k));
        }
        add(x.ended());
    }

    private void roads(PennyRates x) {
        for (int s = 0; s < 16; s++) {
            for (int owner = -1; owner < 6; owner++) {
                add(x.miles(owner, 0, s));
            }
            add(x.way(0, s, 0));
        }
    }

    private void laws(PennyRates x) {
        for (int owner = -1; owner < 6; owner++) {
            for (int what = 0; what < 40; what++) {
                add(x.holds(owner, 400, what));
            }
        }
    }

    private void rates(PennyRates x) {
        for (int rate = 0; rate < 60; rate++) {
            for (int what = 0; what < 11; what++) {
                add(x.of(rate, what));
            }
        }
    }

    private void trucks(PennyRates x) {
        for (int truck = 0; truck < 80; truck++) {
            add(x.due(truck));
        }
        for (int owner = 0; owner < 6; owner++) {
            add(x.friends(owner, 0, 0, 1, 0, 9999, 3));
        }
        add(x.unlikes(0));
        add(x.suit(0));
        add(x.suit(3));
    }

    private void wants(PennyRates x) {
        for (int want = 0; want < 20; want++) {
            add(x.ships(want, 405));
        }
    }

    private void tapes(PennyRates x) {
        for (int tape = 0; tape < 6; tape++) {
            add(x.shift(tape, 0, tape, 0, 0));
            for (int i = 0; i < 80; i++) {
                add(x.read(tape, i));
            }
        }
    }
}
