/** Promises 16 to 19: texts. */
public final class TextsTest {
    private static final Due DUE = new Due("TextsTest");

    public static void main(String[] args) {
        put();
        putErrors();
        putTooMany();
        wipe();
        fault();
        faultOfNumbers();
        carryOut();
        carryOutUpToAnError();
        carryOutTooMany();
        carryOutIsOneChange();
        DUE.end();
    }

    private static void put() {
        SheetMarks x = new SheetMarks();
        DUE.is("put of 1", x.put('h'), 1);
        DUE.is("put of 3", x.put(Due.packed("0b5")), 4);
        DUE.is("fault", x.fault(), SheetMarks.NONE);
        DUE.is("put of 8", x.put(Due.packed(";w012;-0")), 12);
        DUE.is("fault", x.fault(), SheetMarks.NONE);
        DUE.is("carryOut", x.carryOut(), 3);
        DUE.is("the fact that is left", x.ofFact(0, 4), 14);
        DUE.is("put of 33 and 126", x.put(33 << 8 | 126), 2);
    }

    private static void putErrors() {
        SheetMarks x = new SheetMarks();
        long[] bad = {0, -1, 32, 127, 128, 255, 0x6800, 0x680030, 0x680000000000000L, 0x6800000000000030L,
            0x8068686868686868L, 0x2068686868686868L, 0x6868686868686820L, Long.MIN_VALUE, Long.MAX_VALUE, 0x0130,
            0x100000000L};
        for (long characters : bad) {
            DUE.is("put(" + characters + ")", x.put(characters), SheetMarks.BAD_VALUE);
        }
        DUE.is("pad after errors", x.count(8), 0);
    }

    private static void putTooMany() {
        SheetMarks x = new SheetMarks();
        for (int i = 1; i <= 9; i++) {
            DUE.is("put of 8 no. " + i, x.put(Due.packed("h0a0;h0a")), 8 * i);
        }
        DUE.is("put of 1", x.put('0'), 73);
        DUE.is("put of 8 at 73", x.put(Due.packed("h0a0;h0a")), SheetMarks.TOO_MANY);
        DUE.is("put of a bad one at 73", x.put(0x6868686868686801L), SheetMarks.BAD_VALUE);
        DUE.is("pad", x.count(8), 73);
        DUE.is("put of 7 at 73", x.put(Due.packed("h0a0;h0")), 80);
        DUE.is("put of 1 at 80", x.put('0'), SheetMarks.TOO_MANY);
        DUE.is("put of 0 at 80", x.put(0), SheetMarks.BAD_VALUE);
        DUE.is("pad then", x.count(8), 80);
        DUE.is("wipe", x.wipe(), 80);
        for (int i = 0; i < 26; i++) {
            x.put(Due.packed("-0;"));
        }
        DUE.is("text of 80 that ends", x.put(Due.packed("-0")), 80);
        DUE.is("its fault", x.fault(), SheetMarks.NONE);
        x.wipe();
        for (int i = 0; i < 16; i++) {
            x.put(Due.packed("h0a0;"));
        }
        DUE.is("fault of a text of 80 that does not end", x.fault(), 80);
    }

    private static void wipe() {
        SheetMarks x = new SheetMarks();
        DUE.is("wipe of nothing", x.wipe(), 0);
        Due.put(x, "abc");
        DUE.is("wipe", x.wipe(), 3);
        DUE.is("pad then", x.count(8), 0);
        DUE.is("fault then", x.fault(), 0);
        DUE.is("it is no change", x.count(9), 0);
        Due.put(x, "h0a0");
        DUE.is("what is put then", x.carryOut(), 1);
    }

    private static void faultIs(String text, int want) {
        SheetMarks x = new SheetMarks();
        Due.put(x, text);
        DUE.is("fault of " + text, x.fault(), want);
        DUE.is("pad of " + text + " after it", x.count(8), text.length());
    }

    private static void fault() {
        String[] whole = {"h0a0", "h4c5", "r0000", "s4555", "w000", "w555", "h2b3;w123;r1234;s0543;-7"};
        for (String text : whole) {
            faultIs(text, SheetMarks.NONE);
            faultIs(text + ";", text.length() + 1);
            faultIs(text.substring(0, text.length() - 1), text.endsWith("-7") ? 23 : text.length() - 1);
            faultIs(text + "a", text.length());
            faultIs(text + ";" + text, SheetMarks.NONE);
        }
        String[] atFirst = {";", "x", "H0a0", "0", "a0", "!", "~"};
        for (String text : atFirst) {
            faultIs(text, 0);
        }
        faultIs("h5a0", 1);
        faultIs("h/a0", 1);
        faultIs("ha", 1);
        faultIs("h0d0", 2);
        faultIs("h00", 2);
        faultIs("h0A0", 2);
        faultIs("h0`0", 2);
        faultIs("h0a6", 3);
        faultIs("h0a/", 3);
        faultIs("h0a;", 3);
        faultIs("r5000", 1);
        faultIs("s5000", 1);
        faultIs("r0600", 2);
        faultIs("s0060", 3);
        faultIs("r0006", 4);
        faultIs("r00000", 5);
        faultIs("w600", 1);
        faultIs("w060", 2);
        faultIs("w006", 3);
        faultIs("w0000", 4);
        faultIs("w000w000", 4);
        faultIs("w000;;w000", 5);
        faultIs("w000;x", 5);
        faultIs("h0a0;h0", 7);
    }

    private static void faultOfNumbers() {
        faultIs("-0", SheetMarks.NONE);
        faultIs("-9", SheetMarks.NONE);
        faultIs("-10", SheetMarks.NONE);
        faultIs("-99", SheetMarks.NONE);
        faultIs("-9;-0;-50", SheetMarks.NONE);
        faultIs("-", 1);
        faultIs("-;", 1);
        faultIs("--1", 1);
        faultIs("-a", 1);
        faultIs("-00", 2);
        faultIs("-01", 2);
        faultIs("-1a", 2);
        faultIs("-100", 3);
        faultIs("-1;", 3);
        faultIs("-0;-01", 5);
    }

    private static void carryOut() {
        SheetMarks x = new SheetMarks();
        DUE.is("carryOut of nothing", x.carryOut(), SheetMarks.BAD_TEXT);
        Due.put(x, "h0a0;h");
        DUE.is("carryOut with a fault", x.carryOut(), SheetMarks.BAD_TEXT);
        DUE.is("pad stays", x.count(8), 6);
        DUE.is("no change", x.count(9), 0);
        DUE.is("no fact", x.count(1), 0);
        x.wipe();
        Due.put(x, "h1c5;r2345;s0012;w543");
        DUE.is("carryOut", x.carryOut(), 4);
        DUE.is("pad is empty", x.count(8), 0);
        int[][] facts = {{0, 1, 17, -6, -6}, {1, 2, 3, 10, 17}, {2, 0, 0, 7, 14}, {3, -6, 5, 10, 15}};
        for (int fact = 0; fact < 4; fact++) {
            for (int what = 0; what < 5; what++) {
                DUE.is("ofFact(" + fact + ", " + what + ")", x.ofFact(fact, what), facts[fact][what]);
            }
        }
        DUE.is("marks are made", x.mark(0, 17, 4), 2);
        Due.put(x, "-0;-2;-0");
        DUE.is("carryOut of takeBack", x.carryOut(), 3);
        DUE.is("facts", x.count(1), 1);
        DUE.is("fact that is left", x.ofFact(0, 0), SheetMarks.SHOWS);
        DUE.is("marks are gone", x.count(2) + x.count(3), 0);
    }

    private static void carryOutUpToAnError() {
        SheetMarks x = new SheetMarks();
        Due.put(x, "h0a0;h3a1;h0a2");
        DUE.is("carryOut up to a player", x.carryOut(), 1);
        DUE.is("facts", x.count(1), 1);
        DUE.is("pad", x.count(8), 0);
        DUE.is("changes", x.count(9), 1);
        Due.put(x, "-1;h0a2");
        DUE.is("carryOut of none", x.carryOut(), 0);
        DUE.is("facts then", x.count(1), 1);
        DUE.is("pad then", x.count(8), 0);
        DUE.is("changes then", x.count(9), 2);
        Due.put(x, "r1000;s4000;w000");
        DUE.is("carryOut up to a show", x.carryOut(), 1);
        Due.put(x, "-1;-0;-0;w000");
        DUE.is("carryOut up to a number", x.carryOut(), 2);
        DUE.is("facts in the end", x.count(1), 0);
        x.begin(5);
        Due.put(x, "h4a0;-99");
        DUE.is("carryOut for the fifth player", x.carryOut(), 1);
    }

    private static void carryOutTooMany() {
        SheetMarks x = new SheetMarks();
        for (int i = 0; i < 38; i++) {
            x.wrong(0, 0, 0);
        }
        Due.put(x, "w111;h0a0;h0a1;-0");
        DUE.is("carryOut up to 40 facts", x.carryOut(), 2);
        DUE.is("facts", x.count(1), 40);
        Due.put(x, "-0;h0a1;w000");
        DUE.is("carryOut with one taken back", x.carryOut(), 2);
        DUE.is("last fact", x.ofFact(39, 2), 1);
        Due.put(x, "h3a0");
        DUE.is("carryOut of none", x.carryOut(), 0);
        Due.put(x, "-38;-37");
        DUE.is("carryOut of numbers of two digits", x.carryOut(), 2);
        DUE.is("facts then", x.count(1), 38);
        DUE.is("last fact then", x.ofFact(37, 2), 1);
        DUE.is("the one before", x.ofFact(36, 0), SheetMarks.WRONG);
    }

    private static void carryOutIsOneChange() {
        SheetMarks x = new SheetMarks();
        x.holds(2, 2);
        Due.put(x, "h0a0;w123;-0;h1b1");
        DUE.is("carryOut", x.carryOut(), 4);
        DUE.is("changes", x.count(9), 2);
        DUE.is("undo", x.undo(), 1);
        DUE.is("facts", x.count(1), 1);
        DUE.is("mark", x.mark(2, 2, 0), 1);
        DUE.is("mark of the text", x.mark(0, 0, 0), 0);
        DUE.is("pad is not undone", x.count(8), 0);
    }
}
