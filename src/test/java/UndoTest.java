/** Promises 20 to 22: undo, saving. */
public final class UndoTest {
    private static final Due DUE = new Due("UndoTest");

    public static void main(String[] args) {
        undo();
        undoOfSix();
        undoOfEachChange();
        whatIsNoChange();
        save();
        restore();
        restoreIsAChange();
        DUE.end();
    }

    private static void undo() {
        SheetMarks x = new SheetMarks();
        DUE.is("undo of nothing", x.undo(), SheetMarks.NOT_POSSIBLE);
        x.holds(0, 0);
        x.holds(0, 0);
        Due.put(x, "h0");
        DUE.is("undo", x.undo(), 1);
        DUE.is("facts", x.count(1), 1);
        DUE.is("pad stays", x.count(8), 2);
        DUE.is("undo again", x.undo(), 0);
        DUE.is("facts then", x.count(1), 0);
        DUE.is("marks then", x.count(2) + x.count(3), 0);
        DUE.is("undo once more", x.undo(), SheetMarks.NOT_POSSIBLE);
    }

    private static void undoOfSix() {
        SheetMarks x = new SheetMarks();
        for (int i = 0; i < 9; i++) {
            x.holds(i % 3, i);
            DUE.is("changes after " + (i + 1), x.count(9), Math.min(i + 1, 6));
        }
        for (int i = 5; i >= 0; i--) {
            DUE.is("undo", x.undo(), i);
            DUE.is("facts", x.count(1), 3 + i);
            DUE.is("last fact", x.ofFact(2 + i, 2), 2 + i);
        }
        DUE.is("undo of a dropped one", x.undo(), SheetMarks.NOT_POSSIBLE);
        x.holds(0, 17);
        x.undo();
        DUE.is("facts after another change", x.count(1), 3);
    }

    private static void undoOfEachChange() {
        SheetMarks x = new SheetMarks();
        x.holds(1, 1);
        x.save(0);
        x.begin(3);
        DUE.is("undo of begin", x.undo() * 100 + x.count(1), 101);
        x.answers(0, 0, 2, 2, 2);
        DUE.is("undo of answers", x.undo() * 100 + x.count(1), 101);
        x.wrong(0, 0, 0);
        DUE.is("undo of wrong", x.undo() * 100 + x.count(1), 101);
        x.takeBack(0);
        DUE.is("undo of takeBack", x.undo() * 100 + x.count(1), 101);
        Due.put(x, "w000");
        x.carryOut();
        DUE.is("undo of carryOut", x.undo() * 100 + x.count(1), 101);
        x.restore(0);
        DUE.is("restore without a difference", x.count(9), 2);
        DUE.is("undo of restore", x.undo() * 100 + x.count(1), 101);
        DUE.is("the slot stays after undo", x.restore(0), 1);
        x.begin(4);
        x.answers(3, 1, 1, 2, 3);
        x.takeBack(0);
        x.wrong(0, 0, 0);
        x.undo();
        x.undo();
        DUE.is("kind after undo", x.ofFact(0, 0), SheetMarks.SHOWS);
        DUE.is("player after undo", x.ofFact(0, 1), 3);
        DUE.is("card after undo", x.ofFact(0, 4), 15);
    }

    private static void whatIsNoChange() {
        SheetMarks x = new SheetMarks();
        x.holds(0, 0);
        x.save(0);
        x.put('h');
        x.fault();
        x.wipe();
        x.mark(0, 0, 0);
        x.gain(0, 0, 0, 0, 0);
        x.deeper();
        DUE.is("changes", x.count(9), 1);
    }

    private static void save() {
        SheetMarks x = new SheetMarks();
        DUE.is("save(0)", x.save(0), 0);
        x.holds(0, 0);
        x.holds(1, 1);
        DUE.is("save(1)", x.save(1), 2);
        DUE.is("save(2)", x.save(2), SheetMarks.BAD_VALUE);
        DUE.is("save(-1)", x.save(-1), SheetMarks.BAD_VALUE);
        DUE.is("save(MAX)", x.save(Integer.MAX_VALUE), SheetMarks.BAD_VALUE);
        DUE.is("changes", x.count(9), 2);
        DUE.is("restore(0)", x.restore(0), 0);
        DUE.is("restore(1)", x.restore(1), 2);
        x.begin(5);
        x.holds(4, 4);
        DUE.is("save(1) over it", x.save(1), 1);
        x.begin(2);
        DUE.is("restore(1) of the later one", x.restore(1), 1);
        DUE.is("players", x.count(0), 5);
        DUE.is("mark", x.mark(4, 4, 0), 1);
    }

    private static void restore() {
        SheetMarks x = new SheetMarks();
        DUE.is("restore(0) of nothing", x.restore(0), SheetMarks.NOT_POSSIBLE);
        DUE.is("restore(2)", x.restore(2), SheetMarks.BAD_VALUE);
        DUE.is("restore(-1)", x.restore(-1), SheetMarks.BAD_VALUE);
        DUE.is("restore(MIN)", x.restore(Integer.MIN_VALUE), SheetMarks.BAD_VALUE);
        x.holds(0, 0);
        x.save(0);
        DUE.is("restore(1) of nothing", x.restore(1), SheetMarks.NOT_POSSIBLE);
        x.holds(1, 1);
        x.takeBack(0);
        DUE.is("restore(0)", x.restore(0), 1);
        DUE.is("fact", x.ofFact(0, 2), 0);
        DUE.is("mark", x.mark(0, 0, 0), 1);
        DUE.is("mark that was not saved", x.mark(1, 1, 0), 0);
        x.holds(2, 2);
        x.takeBack(0);
        DUE.is("restore(0) of the slot that keeps it", x.restore(0), 1);
        DUE.is("fact again", x.ofFact(0, 2), 0);
    }

    private static void restoreIsAChange() {
        SheetMarks x = new SheetMarks();
        x.save(1);
        x.begin(4);
        x.holds(3, 3);
        Due.put(x, "w0");
        DUE.is("restore", x.restore(1), 0);
        DUE.is("changes", x.count(9), 3);
        DUE.is("pad stays", x.count(8), 2);
        DUE.is("players", x.count(0), 3);
        DUE.is("undo", x.undo(), 2);
        DUE.is("players then", x.count(0), 4);
        DUE.is("mark then", x.mark(3, 3, 0), 1);
    }
}
