import java.util.Random;

/** Texts of laws by lot: most are good ones, some are spoilt at one place. */
final class LawLot {
    private static final String SIGNS = "goodmstreamilckexup 0123456789;=<>&|!()bxdtnv\0\u00ff";

    private final Random lot;

    LawLot(Random lot) {
        this.lot = lot;
    }

    String text() {
        StringBuilder s = new StringBuilder(clause());
        for (int k = lot.nextInt(lot.nextInt(9) == 0 ? 11 : 4); k > 0; k--) {
            s.append(';').append(clause());
        }
        if (lot.nextInt(4) == 0) {
            spoil(s);
        }
        return s.length() <= 140 ? s.toString() : s.substring(0, 140);
    }

    private void spoil(StringBuilder s) {
        int at = lot.nextInt(s.length());
        char sign = SIGNS.charAt(lot.nextInt(SIGNS.length()));
        switch (lot.nextInt(4)) {
            case 0: s.setCharAt(at, sign); break;
            case 1: s.insert(at, sign); break;
            case 2: s.deleteCharAt(at); break;
            default: s.setLength(at);
        }
    }

    private String number() {
        switch (lot.nextInt(5)) {
            case 0: return String.format("%04d", lot.nextInt(10000));
            case 1: return String.format("%03d", lot.nextInt(400));
            case 2: return String.valueOf(lot.nextInt(100));
            default: return String.valueOf(lot.nextInt(10));
        }
    }

    private String clause() {
        switch (lot.nextInt(12)) {
            case 0: return "good " + lot.nextInt(20) + " " + lot.nextInt(4);
            case 1: return "good " + lot.nextInt(4) + " " + lot.nextInt(4);
            case 2: return "most " + lot.nextInt(4) + " " + number();
            case 3: return "term " + number();
            case 4: return "small " + number();
            case 5: return "notice " + lot.nextInt(5);
            case 6: return "back " + number();
            case 7: return "gain " + number();
            case 8: return lot.nextBoolean() ? "miles" : "even";
            case 9: return "most " + lot.nextInt(4) + " " + (5 + lot.nextInt(40));
            case 10: return "same " + either(lot.nextInt(7));
            default: return "excuse " + either(lot.nextInt(7));
        }
    }

    private String either(int room) {
        String s = both(room);
        return lot.nextInt(3) == 0 ? s + "|" + either(room) : s;
    }

    private String both(int room) {
        String s = factor(room);
        return lot.nextInt(3) == 0 ? s + "&" + both(room) : s;
    }

    private String factor(int room) {
        if (room > 0 && lot.nextInt(5) < 3) {
            return lot.nextBoolean() ? "!" + factor(room - 1) : "(" + either(room - 1) + ")";
        }
        switch (lot.nextInt(8)) {
            case 0: return "g=" + number();
            case 1: return "c=" + lot.nextInt(4);
            case 2: return "o=" + lot.nextInt(4);
            case 3: return "t<" + number();
            case 4: return "t>" + number();
            case 5: return (lot.nextBoolean() ? "d<" : "d>") + number();
            case 6: return "b";
            default: return "x";
        }
    }
}
