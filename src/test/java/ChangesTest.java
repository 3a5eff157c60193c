/** Promises 1 to 6: a new object, and the changes. */
public final class ChangesTest {
    private static final Due DUE = new Due("ChangesTest");

    public static void main(String[] args) {
        newObject();
        begin();
        beginKeepsPadSlotsAndHistory();
        holds();
        answers();
        wrong();
        tooMany();
        takeBack();
        errorsChangeNothing();
        DUE.end();
    }

    private static void newObject() {
        SheetMarks x = new SheetMarks();
        int[] counts = {3, 0, 0, 0, 72, 0, 0, 0, 0, 0};
        for (int what = 0; what < counts.length; what++) {
            DUE.is("new: count(" + what + ")", x.count(what), counts[what]);
        }
        for (int player = 0; player < 3; player++) {
            DUE.is("new: ofOwner(" + player + ", 0)", x.ofOwner(player, 0), 5);
            DUE.is("new: ofOwner(" + player + ", 3)", x.ofOwner(player, 3), 262143);
        }
        DUE.is("new: ofOwner(5, 0)", x.ofOwner(5, 0), 3);
        DUE.is("new: ofOwner(3, 0)", x.ofOwner(3, 0), SheetMarks.NO_SUCH);
        DUE.is("new: ofFact(0, 0)", x.ofFact(0, 0), SheetMarks.NO_SUCH);
        DUE.is("new: fault", x.fault(), 0);
        DUE.is("new: undo", x.undo(), SheetMarks.NOT_POSSIBLE);
        DUE.is("new: restore(0)", x.restore(0), SheetMarks.NOT_POSSIBLE);
        DUE.is("new: restore(1)", x.restore(1), SheetMarks.NOT_POSSIBLE);
    }

    private static void begin() {
        SheetMarks x = new SheetMarks();
        int[][] hands = {{}, {}, {8, 7}, {5, 5, 5}, {4, 4, 4, 3}, {3, 3, 3, 3, 3}};
        for (int players = 2; players <= 5; players++) {
            x.holds(0, 0);
            x.holds(0, 1);
            DUE.is("begin(" + players + ")", x.begin(players), 2);
            DUE.is("count(0) then", x.count(0), players);
            DUE.is("count(1) then", x.count(1), 0);
            DUE.is("count(2) then", x.count(2), 0);
            DUE.is("count(3) then", x.count(3), 0);
            DUE.is("count(4) then", x.count(4), 18 * (players + 1));
            for (int player = 0; player < 6; player++) {
                int hand = player < players ? hands[players][player] : player == 5 ? 3 : SheetMarks.NO_SUCH;
                DUE.is("ofOwner(" + player + ", 0) of " + players, x.ofOwner(player, 0), hand);
            }
        }
        int[] bad = {1, 6, 0, -1, Integer.MIN_VALUE, Integer.MAX_VALUE};
        for (int players : bad) {
            DUE.is("begin(" + players + ")", x.begin(players), SheetMarks.BAD_VALUE);
        }
        DUE.is("players after wrong ones", x.count(0), 5);
    }

    private static void beginKeepsPadSlotsAndHistory() {
        SheetMarks x = new SheetMarks();
        x.holds(1, 2);
        x.save(1);
        Due.put(x, "h0");
        DUE.is("begin(4)", x.begin(4), 1);
        DUE.is("pad after begin", x.count(8), 2);
        DUE.is("changes after begin", x.count(9), 2);
        DUE.is("undo of begin", x.undo(), 1);
        DUE.is("players after undo", x.count(0), 3);
        DUE.is("mark after undo", x.mark(1, 2, 0), 1);
        x.begin(2);
        DUE.is("restore after begin", x.restore(1), 1);
        DUE.is("players after restore", x.count(0), 3);
    }

    private static void holds() {
        SheetMarks x = new SheetMarks();
        DUE.is("holds(2, 17)", x.holds(2, 17), 4);
        DUE.is("mark(2, 17, 0)", x.mark(2, 17, 0), 1);
        DUE.is("mark(5, 17, 0)", x.mark(5, 17, 0), 2);
        DUE.is("holds(2, 17) again", x.holds(2, 17), 4);
        DUE.is("facts", x.count(1), 2);
        DUE.is("changes", x.count(9), 2);
        int[][] bad = {{3, 0}, {-1, 0}, {5, 0}, {0, -1}, {0, 18}, {Integer.MIN_VALUE, 0}, {0, Integer.MAX_VALUE}};
        for (int[] b : bad) {
            DUE.is("holds(" + b[0] + ", " + b[1] + ")", x.holds(b[0], b[1]), SheetMarks.NO_SUCH);
        }
        x.begin(2);
        DUE.is("holds(2, 0) of 2 players", x.holds(2, 0), SheetMarks.NO_SUCH);
        DUE.is("holds(1, 0) of 2 players", x.holds(1, 0), 3);
    }

    private static void answers() {
        SheetMarks x = new SheetMarks();
        DUE.is("answers(1, 0, 5, 0, 3)", x.answers(1, 0, 5, 0, 3), 3);
        DUE.is("no marks", x.ofOwner(1, 2), 1 << 5 | 1 << 6 | 1 << 15);
        DUE.is("answers(1, 1, 5, 1, 3)", x.answers(1, 1, 5, 1, 3), 7);
        DUE.is("shown card", x.mark(1, 7, 2), 6);
        DUE.is("kind of the first", x.ofFact(0, 0), SheetMarks.REFUSES);
        DUE.is("kind of the second", x.ofFact(1, 0), SheetMarks.SHOWS);
        int[][] noSuch = {{3, 0, 0, 0, 0}, {-1, 0, 0, 0, 0}, {5, 0, 0, 0, 0}, {0, 0, 6, 0, 0}, {0, 0, -1, 0, 0},
            {0, 0, 0, 6, 0}, {0, 0, 0, -1, 0}, {0, 0, 0, 0, 6}, {0, 1, 0, 0, -1}, {0, 7, 0, 0, 6}, {4, 2, 0, 0, 0},
            {0, 0, 0, Integer.MAX_VALUE, 0}, {0, 0, Integer.MIN_VALUE, 0, 0}};
        for (int[] b : noSuch) {
            DUE.is("answers of no such", x.answers(b[0], b[1], b[2], b[3], b[4]), SheetMarks.NO_SUCH);
        }
        DUE.is("answers(0, 2, ..)", x.answers(0, 2, 0, 0, 0), SheetMarks.BAD_VALUE);
        DUE.is("answers(0, -1, ..)", x.answers(0, -1, 0, 0, 0), SheetMarks.BAD_VALUE);
        DUE.is("facts", x.count(1), 2);
    }

    private static void wrong() {
        SheetMarks x = new SheetMarks();
        DUE.is("wrong(0, 0, 0)", x.wrong(0, 0, 0), 0);
        DUE.is("wrong(5, 5, 5)", x.wrong(5, 5, 5), 0);
        DUE.is("facts", x.count(1), 2);
        DUE.is("kind", x.ofFact(0, 0), SheetMarks.WRONG);
        int[][] bad = {{6, 0, 0}, {-1, 0, 0}, {0, 6, 0}, {0, -1, 0}, {0, 0, 6}, {0, 0, -1}, {0, 0, Integer.MAX_VALUE}};
        for (int[] b : bad) {
            DUE.is("wrong of no such", x.wrong(b[0], b[1], b[2]), SheetMarks.NO_SUCH);
        }
        DUE.is("facts then", x.count(1), 2);
    }

    private static void tooMany() {
        SheetMarks x = new SheetMarks();
        for (int i = 0; i < 40; i++) {
            DUE.is("wrong no. " + i, x.wrong(i % 6, i / 6 % 6, 0), 0);
        }
        DUE.is("41st holds", x.holds(0, 0), SheetMarks.TOO_MANY);
        DUE.is("41st answers", x.answers(0, 0, 0, 0, 0), SheetMarks.TOO_MANY);
        DUE.is("41st wrong", x.wrong(0, 0, 0), SheetMarks.TOO_MANY);
        DUE.is("41st holds of no such", x.holds(3, 0), SheetMarks.NO_SUCH);
        DUE.is("41st answers of a bad value", x.answers(0, 2, 0, 0, 0), SheetMarks.BAD_VALUE);
        DUE.is("41st wrong of no such", x.wrong(0, 0, 6), SheetMarks.NO_SUCH);
        DUE.is("facts", x.count(1), 40);
        DUE.is("gain with 40 facts", x.gain(0, 0, 0, 0, 0), 3);
        DUE.is("facts after gain", x.count(1), 40);
        DUE.is("takeBack(39)", x.takeBack(39), 39);
        DUE.is("40th holds", x.holds(0, 0), 4);
        DUE.is("41st again", x.holds(0, 1), SheetMarks.TOO_MANY);
    }

    private static void takeBack() {
        SheetMarks x = new SheetMarks();
        x.holds(0, 1);
        x.holds(1, 2);
        x.holds(2, 3);
        DUE.is("takeBack(0)", x.takeBack(0), 2);
        DUE.is("first fact then", x.ofFact(0, 2), 2);
        DUE.is("second fact then", x.ofFact(1, 2), 3);
        DUE.is("third fact then", x.ofFact(2, 0), SheetMarks.NO_SUCH);
        DUE.is("mark of the one taken back", x.mark(0, 1, 0), 0);
        DUE.is("mark of another one", x.mark(2, 3, 0), 1);
        int[] bad = {2, -1, 40, 41, Integer.MAX_VALUE, Integer.MIN_VALUE};
        for (int fact : bad) {
            DUE.is("takeBack(" + fact + ")", x.takeBack(fact), SheetMarks.NO_SUCH);
        }
        DUE.is("changes", x.count(9), 4);
        DUE.is("takeBack(1)", x.takeBack(1), 1);
        DUE.is("takeBack(0) again", x.takeBack(0), 0);
        DUE.is("marks", x.count(2) + x.count(3), 0);
    }

    private static void errorsChangeNothing() {
        SheetMarks x = new SheetMarks();
        x.begin(1);
        x.holds(3, 0);
        x.answers(0, 2, 0, 0, 0);
        x.wrong(6, 0, 0);
        x.takeBack(0);
        x.carryOut();
        x.undo();
        x.restore(0);
        x.restore(2);
        x.save(2);
        DUE.is("changes after errors", x.count(9), 0);
        DUE.is("facts after errors", x.count(1), 0);
        DUE.is("players after errors", x.count(0), 3);
    }
}
