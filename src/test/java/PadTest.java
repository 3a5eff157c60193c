/** The section "Texts" and promises 16 to 19: each character at each place, and texts that are empty, full, cut off. */
public final class PadTest {
    private static final Due DUE = new Due("PadTest");
    private static final int NONE = SheetMarks.NONE, BAD_VALUE = SheetMarks.BAD_VALUE, TOO_MANY = SheetMarks.TOO_MANY;
    private static final int BAD_TEXT = SheetMarks.BAD_TEXT;

    public static void main(String[] args) {
        codes();
        codesOfEight();
        gaps();
        lengths();
        orderOfCharacters();
        upToEighty();
        eachPlace();
        cutOff();
        firstFaultAlone();
        numbers();
        playersAndCards();
        emptyPad();
        fullPad();
        ordersOfOneText();
        stopsAtTheFirstError();
        faultStops();
        orderOverForty();
        DUE.end();
    }

    private static SheetMarks padOf(String text) {
        SheetMarks x = new SheetMarks();
        Due.put(x, text);
        return x;
    }

    /** A code is 33 to 126. */
    private static void codes() {
        for (int code = 0; code < 256; code++) {
            SheetMarks x = new SheetMarks();
            boolean good = code >= 33 && code <= 126;
            DUE.is("put(" + code + ")", x.put(code), good ? 1 : BAD_VALUE);
            DUE.is("pad after put(" + code + ")", x.count(8), good ? 1 : 0);
            DUE.is("fault after put(" + code + ")", x.fault(), "hrsw-".indexOf(code) >= 0 ? 1 : 0);
        }
    }

    /** The same at each of eight places; only the first of them, the highest 8 bits, may be 0. */
    private static void codesOfEight() {
        for (int place = 0; place < 8; place++) {
            for (int code = 0; code < 256; code++) {
                SheetMarks x = new SheetMarks();
                long number = Due.packed("wwwwwwww") & ~(255L << 8 * place) | (long) code << 8 * place;
                int want = code >= 33 && code <= 126 ? 8 : code == 0 && place == 7 ? 7 : BAD_VALUE;
                DUE.is("put(" + number + ")", x.put(number), want);
                DUE.is("pad after put(" + number + ")", x.count(8), Math.max(0, want));
            }
        }
    }

    /** Above 8 bits that are 0 not one bit may be 1. */
    private static void gaps() {
        for (int many = 0; many < 7; many++) {
            long good = Due.packed("wwwwwww".substring(0, many));
            for (int bit = 8 * many + 8; bit < 64; bit++) {
                SheetMarks x = new SheetMarks();
                DUE.is("put of a gap behind " + many, x.put(good | 1L << bit), BAD_VALUE);
                DUE.is("pad then", x.count(8), 0);
            }
        }
    }

    private static void lengths() {
        for (int many = 1; many <= 8; many++) {
            String text = "h0a0;h0a".substring(0, many);
            SheetMarks x = new SheetMarks();
            DUE.is("put of " + many, x.put(Due.packed(text)), many);
            DUE.is("put of " + many + " again", x.put(Due.packed(text)), 2 * many);
            DUE.is("pad of " + many, x.count(8), 2 * many);
        }
    }

    /** The lowest 8 bits are the last character. */
    private static void orderOfCharacters() {
        SheetMarks x = new SheetMarks();
        DUE.is("put", x.put(((long) 'h' << 24) + ('2' << 16) + ('b' << 8) + '3'), 4);
        DUE.is("carryOut", x.carryOut(), 1);
        DUE.is("player", x.ofFact(0, 1), 2);
        DUE.is("card", x.ofFact(0, 2), 9);
        String all = "s2153;w345;h1c4";
        for (int cut = 1; cut < 8; cut++) {
            SheetMarks y = new SheetMarks();
            for (int i = 0; i < all.length(); i += cut) {
                y.put(Due.packed(all.substring(i, Math.min(i + cut, all.length()))));
            }
            DUE.is("carryOut of pieces of " + cut, y.carryOut(), 3);
            DUE.is("first", y.ofFact(0, 1) * 1000000 + y.ofFact(0, 2) * 10000 + y.ofFact(0, 3) * 100 + y.ofFact(0, 4),
                    2011115);
            DUE.is("second", y.ofFact(1, 2) * 10000 + y.ofFact(1, 3) * 100 + y.ofFact(1, 4), 31017);
            DUE.is("third", y.ofFact(2, 1) * 100 + y.ofFact(2, 2), 116);
        }
    }

    /** With 1 to 8 characters, a pad of 80 is reached, and one of 81 is refused. */
    private static void upToEighty() {
        String row = "h0a0;h0a0;h0a0;h0a0;h0a0;h0a0;h0a0;h0a0;h0a0;h0a0;h0a0;h0a0;h0a0;h0a0;h0a0;h0a0;";
        for (int many = 1; many <= 8; many++) {
            long number = Due.packed("wwwwwwww".substring(0, many));
            SheetMarks x = padOf(row.substring(0, 80 - many));
            DUE.is("put of " + many + " up to 80", x.put(number), 80);
            DUE.is("pad of 80", x.count(8), 80);
            DUE.is("put of " + many + " at 80", x.put(number), TOO_MANY);
            DUE.is("put of a bad one at 80", x.put(number << 8), BAD_VALUE);
            SheetMarks y = padOf(row.substring(0, 81 - many));
            DUE.is("put of " + many + " up to 81", y.put(number), TOO_MANY);
            DUE.is("pad stays", y.count(8), 81 - many);
            // Each order but the last has five characters, so a text may end where one is missing of the next five.
            DUE.is("its fault too", y.fault(), (81 - many) % 5 == 4 ? NONE : 81 - many);
        }
    }

    /** Which characters can stand behind a text: all others are the fault. */
    private static void nextIs(String before, String good) {
        for (char c = 33; c <= 126; c++) {
            SheetMarks x = padOf(before + c);
            boolean fits = good.indexOf(c) >= 0;
            int fault = x.fault();
            if (fits) {
                DUE.is("fault of " + before + c, fault == NONE || fault == before.length() + 1 ? 1 : 0, 1);
            } else {
                DUE.is("fault of " + before + c, fault, before.length());
            }
        }
    }

    private static void eachPlace() {
        for (String before : new String[] {"", "h0a0;", "r0000;w555;", "-0;", "-99;"}) {
            nextIs(before, "hrsw-");
            for (String order : new String[] {"h0a0", "h1b1", "h2c2", "h3a3", "h4b4", "h0c5"}) {
                nextIs(before + order.substring(0, 1), "01234");
                nextIs(before + order.substring(0, 2), "abc");
                nextIs(before + order.substring(0, 3), "012345");
                nextIs(before + order, ";");
            }
            for (String order : new String[] {"r0000", "s4555", "r2345", "s1015"}) {
                nextIs(before + order.substring(0, 1), "01234");
                nextIs(before + order.substring(0, 2), "012345");
                nextIs(before + order.substring(0, 3), "012345");
                nextIs(before + order.substring(0, 4), "012345");
                nextIs(before + order, ";");
            }
            nextIs(before + "w", "012345");
            nextIs(before + "w5", "012345");
            nextIs(before + "w05", "012345");
            nextIs(before + "w050", ";");
            nextIs(before + "-", "0123456789");
            nextIs(before + "-0", ";");
            nextIs(before + "-1", "0123456789;");
            nextIs(before + "-9", "0123456789;");
            nextIs(before + "-10", ";");
            nextIs(before + "-99", ";");
        }
    }

    /** A text that ends too early has its fault behind its end; one that ends where it may has none. */
    private static void cutOff() {
        String text = "h0a0;r1234;s2543;w012;-7;-89;h4c5";
        DUE.is("the text's own length", text.length(), 33);
        for (int end = 0; end <= text.length(); end++) {
            boolean mayEnd = end == 4 || end == 10 || end == 16 || end == 21 || end == 24 || end == 27 || end == 28
                    || end == 33;
            SheetMarks x = padOf(text.substring(0, end));
            DUE.is("fault of the first " + end, x.fault(), mayEnd ? NONE : end);
            DUE.is("carryOut of the first " + end + " is refused", x.carryOut() == BAD_TEXT ? 1 : 0, mayEnd ? 0 : 1);
            DUE.is("pad then", x.count(8), mayEnd ? 0 : end);
        }
    }

    private static void firstFaultAlone() {
        DUE.is("two faults", padOf("h0d0;x").fault(), 2);
        DUE.is("a fault and an early end", padOf("w006;h").fault(), 3);
        DUE.is("a fault at the first place", padOf(";h0a0").fault(), 0);
        DUE.is("a fault at the last place", padOf("h0a0;w01x").fault(), 8);
        String row = "h0a0;h0a0;h0a0;h0a0;h0a0;h0a0;h0a0;h0a0;h0a0;h0a0;h0a0;h0a0;h0a0;h0a0;h0a0;h0a0";
        DUE.is("none in 79", padOf(row).fault(), NONE);
        DUE.is("a fault at the last of 80", padOf(row + "0").fault(), 79);
        DUE.is("no room for what is missing", padOf(row + ";").fault(), 80);
    }

    /** A number is 0 to 99, without leading zeros; that there is no such fact is no fault of the text. */
    private static void numbers() {
        for (int number = 0; number <= 99; number++) {
            SheetMarks x = padOf("-" + number);
            DUE.is("fault of -" + number, x.fault(), NONE);
            for (int i = 0; i < 40; i++) {
                x.wrong(i % 6, i / 6 % 6, i % 5);
            }
            int kept = number < 39 ? x.ofFact(number + 1, 2) : 0;
            DUE.is("carryOut of -" + number, x.carryOut(), number < 40 ? 1 : 0);
            DUE.is("facts after -" + number, x.count(1), number < 40 ? 39 : 40);
            if (number < 39) {
                DUE.is("what moves up for -" + number, x.ofFact(number, 2), kept);
            }
        }
        for (int digit = 0; digit <= 9; digit++) {
            DUE.is("fault of -0" + digit, padOf("-0" + digit).fault(), 2);
            DUE.is("fault of -10" + digit, padOf("-10" + digit).fault(), 3);
            DUE.is("fault of -99" + digit, padOf("-99" + digit).fault(), 3);
        }
    }

    /** A player and a card of a text are those of the calls. */
    private static void playersAndCards() {
        for (int player = 0; player < 5; player++) {
            for (int card = 0; card < 18; card++) {
                SheetMarks x = new SheetMarks();
                x.begin(5);
                int of = card % 6;
                Due.put(x, "h" + player + "abc".charAt(card / 6) + of + ";r" + player + of + (5 - of) + of
                        + ";s" + player + (5 - of) + of + of + ";w" + of + of + (5 - of));
                DUE.is("carryOut", x.carryOut(), 4);
                SheetMarks y = new SheetMarks();
                y.begin(5);
                y.holds(player, card);
                y.answers(player, 0, of, 5 - of, of);
                y.answers(player, 1, 5 - of, of, of);
                y.wrong(of, of, 5 - of);
                for (int fact = 0; fact < 4; fact++) {
                    for (int what = 0; what < 5; what++) {
                        DUE.is("ofFact(" + fact + ", " + what + ")", x.ofFact(fact, what), y.ofFact(fact, what));
                    }
                }
                DUE.is("yes marks", x.count(2), y.count(2));
                DUE.is("no marks", x.count(3), y.count(3));
                DUE.is("rounds", x.count(5), y.count(5));
            }
        }
    }

    private static void emptyPad() {
        SheetMarks x = new SheetMarks();
        DUE.is("fault of the empty text", x.fault(), 0);
        DUE.is("carryOut of the empty text", x.carryOut(), BAD_TEXT);
        DUE.is("it is no change", x.count(9), 0);
        DUE.is("wipe of the empty text", x.wipe(), 0);
        Due.put(x, "w000");
        DUE.is("carryOut", x.carryOut(), 1);
        DUE.is("pad then", x.count(8), 0);
        DUE.is("fault then", x.fault(), 0);
        DUE.is("carryOut again", x.carryOut(), BAD_TEXT);
        DUE.is("wipe then", x.wipe(), 0);
        DUE.is("changes", x.count(9), 1);
        Due.put(x, "w001;");
        DUE.is("wipe of five", x.wipe(), 5);
        Due.put(x, "w002");
        DUE.is("nothing of the wiped text is left", x.carryOut(), 1);
        DUE.is("the new text's fact", x.ofFact(1, 4), 14);
        DUE.is("facts", x.count(1), 2);
    }

    private static void fullPad() {
        SheetMarks x = new SheetMarks();
        for (int i = 0; i < 15; i++) {
            Due.put(x, "w" + i / 6 + i % 6 + "0;");
        }
        DUE.is("pad of 75", x.count(8), 75);
        DUE.is("pad of 80", Due.put(x, "r2555"), 80);
        DUE.is("its fault", x.fault(), NONE);
        DUE.is("its carryOut", x.carryOut(), 16);
        DUE.is("the first card of the last order", x.ofFact(15, 2), 5);
        DUE.is("the last card of the last order", x.ofFact(15, 4), 17);
        DUE.is("pad then", x.count(8), 0);
        for (int i = 0; i < 16; i++) {
            Due.put(x, "h0a0;");
        }
        DUE.is("carryOut of 80 that end too early", x.carryOut(), BAD_TEXT);
        DUE.is("pad stays", x.count(8), 80);
        DUE.is("wipe of 80", x.wipe(), 80);
        DUE.is("pad of 1", x.put('w'), 1);
    }

    /** 27 orders are the most that 80 characters can hold. */
    private static void ordersOfOneText() {
        for (int facts = 26; facts <= 28; facts++) {
            SheetMarks x = new SheetMarks();
            for (int i = 0; i < facts; i++) {
                x.wrong(i % 6, i / 6, 0);
            }
            for (int i = 0; i < 27; i++) {
                Due.put(x, i < 26 ? "-0;" : "-0");
            }
            DUE.is("pad", x.count(8), 80);
            DUE.is("carryOut of 27 with " + facts, x.carryOut(), Math.min(facts, 27));
            DUE.is("facts then", x.count(1), facts - Math.min(facts, 27));
            DUE.is("changes then", x.count(9), 6);
            DUE.is("undo of all of them", x.undo(), 5);
            DUE.is("facts again", x.count(1), facts);
        }
    }

    /** Each sort of order can return an error; what is behind it is not carried out, what is before it stays. */
    private static void stopsAtTheFirstError() {
        String[] bad = {"h3a0", "h4c5", "r3000", "s3000", "s4555", "-1", "-40", "-99"};
        for (String order : bad) {
            SheetMarks first = padOf(order + ";w111;w222");
            DUE.is("carryOut with " + order + " first", first.carryOut(), 0);
            DUE.is("facts then", first.count(1), 0);
            DUE.is("pad then", first.count(8), 0);
            DUE.is("a change all the same", first.count(9), 1);
            DUE.is("its undo", first.undo(), 0);
            SheetMarks second = padOf("w111;" + order + ";w222");
            DUE.is("carryOut with " + order + " second", second.carryOut(), 1);
            DUE.is("facts then", second.count(1), 1);
            DUE.is("pad then", second.count(8), 0);
            DUE.is("changes then", second.count(9), 1);
            SheetMarks last = padOf("w111;h0a0;" + order);
            DUE.is("carryOut with " + order + " last", last.carryOut(), order.equals("-1") ? 3 : 2);
        }
        SheetMarks two = padOf("h1a0;h2a0");
        two.begin(2);
        DUE.is("carryOut of player 2 of 2", two.carryOut(), 1);
        SheetMarks five = padOf("h4a0;r4111;s4222");
        five.begin(5);
        DUE.is("carryOut of player 4 of 5", five.carryOut(), 3);
    }

    private static void faultStops() {
        SheetMarks x = padOf("w111;w222;w22");
        x.holds(0, 0);
        DUE.is("carryOut", x.carryOut(), BAD_TEXT);
        DUE.is("no order before the fault is carried out", x.count(1), 1);
        DUE.is("changes", x.count(9), 1);
        DUE.is("pad", x.count(8), 13);
        x.put('2');
        DUE.is("carryOut of the mended text", x.carryOut(), 3);
        DUE.is("facts", x.count(1), 4);
    }

    private static void orderOverForty() {
        String[] orders = {"h0a0", "r0000", "s0000", "w000"};
        for (String order : orders) {
            for (int facts = 38; facts <= 40; facts++) {
                SheetMarks x = padOf(order + ";" + order);
                for (int i = 0; i < facts; i++) {
                    x.wrong(i % 6, i / 6 % 6, 0);
                }
                DUE.is("carryOut of two " + order + " at " + facts, x.carryOut(), 40 - facts);
                DUE.is("facts then", x.count(1), 40);
                DUE.is("changes then", x.count(9), 6);
            }
            SheetMarks y = padOf("-39;" + order + ";" + order);
            for (int i = 0; i < 40; i++) {
                y.wrong(i % 6, i / 6 % 6, 0);
            }
            DUE.is("carryOut of one back and two " + order, y.carryOut(), 2);
        }
    }
}
