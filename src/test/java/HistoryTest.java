/** Promises 2, 6 and 20 to 22: what is recorded, what is undone, what is dropped, what is saved. */
public final class HistoryTest {
    private static final Due DUE = new Due("HistoryTest");
    private static final int NOT_POSSIBLE = SheetMarks.NOT_POSSIBLE, BAD_VALUE = SheetMarks.BAD_VALUE;
    private static final String[] NAMES = {"begin", "holds", "refusal", "show", "wrong", "takeBack", "carryOut",
        "carryOut of none", "restore"};

    public static void main(String[] args) {
        for (int change = 0; change < NAMES.length; change++) {
            recordsOne(change);
            dropsTheOldest(change);
        }
        withoutDifference();
        sixAtMost();
        afterUndo();
        undoIsNoChange();
        undoKeepsPad();
        undoKeepsSlots();
        undoOfAllKinds();
        beginOfAll();
        takeBackOfForty();
        slotsAreTwo();
        slotOfForty();
        slotKeepsWhatWasSaved();
        restoreKeepsPadAndHistory();
        DUE.end();
    }

    /** Each change once; the sheet has a fact, and slot 0 too. */
    private static int change(SheetMarks x, int change) {
        switch (change) {
            case 0: return x.begin(4);
            case 1: return x.holds(1, 7);
            case 2: return x.answers(0, 0, 1, 2, 3);
            case 3: return x.answers(2, 1, 1, 2, 3);
            case 4: return x.wrong(3, 3, 3);
            case 5: return x.takeBack(0);
            case 6: return withText(x, "h1a1;h2a2");
            case 7: return withText(x, "-39");
            default: return x.restore(0);
        }
    }

    private static int withText(SheetMarks x, String text) {
        Due.put(x, text);
        return x.carryOut();
    }

    /** All that a state holds, as one number: the players and the facts. */
    private static long state(SheetMarks x) {
        long state = x.count(0);
        for (int fact = 0; fact < x.count(1); fact++) {
            for (int what = 0; what < 5; what++) {
                state = state * 31 + x.ofFact(fact, what) + 7;
            }
        }
        return state * 1000 + x.count(2) * 30 + x.count(3) + x.count(5);
    }

    private static void recordsOne(int change) {
        SheetMarks x = new SheetMarks();
        x.wrong(0, 1, 2);
        x.save(0);
        x.undo();
        x.wrong(5, 4, 3);
        long before = state(x);
        DUE.is(NAMES[change] + " is carried out", change(x, change) >= 0 ? 1 : 0, 1);
        DUE.is("changes after " + NAMES[change], x.count(9), 2);
        DUE.is("undo of " + NAMES[change], x.undo(), 1);
        DUE.is("state after undo of " + NAMES[change], state(x), before);
        DUE.is("undo of the one before", x.undo(), 0);
        DUE.is("undo of no more", x.undo(), NOT_POSSIBLE);
        DUE.is("state in the end", state(x), state(new SheetMarks()));
    }

    private static void dropsTheOldest(int change) {
        SheetMarks x = new SheetMarks();
        x.save(0);
        long[] states = new long[7];
        for (int i = 0; i < 6; i++) {
            states[i] = state(x);
            x.wrong(i, i, i);
            DUE.is("changes", x.count(9), i + 1);
        }
        states[6] = state(x);
        DUE.is(NAMES[change] + " as the seventh", change(x, change) >= 0 ? 1 : 0, 1);
        DUE.is("changes after the seventh", x.count(9), 6);
        for (int i = 6; i > 0; i--) {
            DUE.is("undo to state " + i + " before " + NAMES[change], x.undo(), i - 1);
            DUE.is("state " + i, state(x), states[i]);
        }
        DUE.is("state 0 is dropped", x.undo(), NOT_POSSIBLE);
        DUE.is("it stays at state 1", state(x), states[1]);
    }

    /** A change is recorded also if nothing is different then. */
    private static void withoutDifference() {
        SheetMarks x = new SheetMarks();
        x.save(1);
        DUE.is("begin(3) of a new sheet", x.begin(3), 0);
        DUE.is("changes", x.count(9), 1);
        DUE.is("restore of the same", x.restore(1), 0);
        DUE.is("changes", x.count(9), 2);
        Due.put(x, "-0;h0a0");
        DUE.is("carryOut of none", x.carryOut(), 0);
        DUE.is("changes", x.count(9), 3);
        Due.put(x, "h0a0;-0");
        DUE.is("carryOut of one and its contrary", x.carryOut(), 2);
        DUE.is("changes", x.count(9), 4);
        for (int i = 3; i >= 0; i--) {
            DUE.is("undo", x.undo(), i);
            DUE.is("no facts", x.count(1), 0);
            DUE.is("players", x.count(0), 3);
        }
    }

    private static void sixAtMost() {
        SheetMarks x = new SheetMarks();
        for (int i = 1; i <= 30; i++) {
            x.holds(i % 3, i % 18);
            DUE.is("changes after " + i, x.count(9), Math.min(i, 6));
        }
        for (int i = 5; i >= 0; i--) {
            DUE.is("undo", x.undo(), i);
            DUE.is("facts", x.count(1), 24 + i);
            DUE.is("changes", x.count(9), i);
        }
        DUE.is("undo of the seventh", x.undo(), NOT_POSSIBLE);
        DUE.is("facts that stay", x.count(1), 24);
    }

    /** What was undone is gone: the next change is recorded in its place. */
    private static void afterUndo() {
        for (int back = 1; back <= 6; back++) {
            SheetMarks x = new SheetMarks();
            for (int i = 0; i < 8; i++) {
                x.wrong(i % 6, 0, 0);
            }
            for (int i = 0; i < back; i++) {
                x.undo();
            }
            x.begin(2);
            DUE.is("changes after " + back + " undone", x.count(9), 7 - back);
            DUE.is("undo of begin", x.undo(), 6 - back);
            DUE.is("facts", x.count(1), 8 - back);
            DUE.is("players", x.count(0), 3);
            if (back < 6) {
                DUE.is("undo of the one before", x.undo(), 5 - back);
                DUE.is("facts then", x.count(1), 7 - back);
            }
        }
    }

    private static void undoIsNoChange() {
        SheetMarks x = new SheetMarks();
        x.holds(0, 0);
        x.undo();
        DUE.is("undo of an undo", x.undo(), NOT_POSSIBLE);
        DUE.is("changes", x.count(9), 0);
        DUE.is("facts", x.count(1), 0);
        DUE.is("marks", x.count(2) + x.count(3), 0);
    }

    private static void undoKeepsPad() {
        SheetMarks x = new SheetMarks();
        Due.put(x, "h0a0");
        x.holds(1, 1);
        Due.put(x, ";h");
        DUE.is("undo", x.undo(), 0);
        DUE.is("pad stays as it is now", x.count(8), 6);
        DUE.is("its fault", x.fault(), 6);
        Due.put(x, "1b1");
        DUE.is("carryOut", x.carryOut(), 2);
        DUE.is("undo of it", x.undo(), 0);
        DUE.is("pad stays empty", x.count(8), 0);
        x.wrong(0, 0, 0);
        Due.put(x, "w111");
        x.undo();
        x.undo();
        DUE.is("pad after an undo that is refused", x.count(8), 4);
    }

    private static void undoKeepsSlots() {
        SheetMarks x = new SheetMarks();
        x.save(0);
        x.holds(0, 5);
        x.save(0);
        x.save(1);
        x.undo();
        DUE.is("restore(0) of what was saved later", x.restore(0), 1);
        DUE.is("its card", x.mark(0, 5, 0), 1);
        x.undo();
        DUE.is("restore(1)", x.restore(1), 1);
        DUE.is("undo of restore", x.undo(), 0);
        DUE.is("facts", x.count(1), 0);
        DUE.is("restore(1) again", x.restore(1), 1);
    }

    private static void undoOfAllKinds() {
        SheetMarks x = new SheetMarks();
        x.begin(5);
        x.holds(4, 17);
        x.answers(3, 0, 5, 0, 5);
        x.answers(2, 1, 0, 5, 0);
        x.wrong(1, 2, 3);
        long before = state(x);
        x.begin(2);
        x.holds(1, 0);
        x.undo();
        x.undo();
        DUE.is("state after undo", state(x), before);
        DUE.is("players", x.count(0), 5);
        DUE.is("holder", x.ofFact(0, 1) * 100 + x.ofFact(0, 2), 417);
        DUE.is("refusal", x.ofFact(1, 1) * 100 + x.ofFact(1, 4), 317);
        DUE.is("show", x.ofFact(2, 1) * 100 + x.ofFact(2, 3), 211);
        DUE.is("wrong", x.ofFact(3, 0) * 100 + x.ofFact(3, 2), 301);
        DUE.is("fact 4", x.ofFact(4, 0), SheetMarks.NO_SUCH);
        DUE.is("round", x.mark(0, 17, 3), 2);
        DUE.is("rounds", x.count(5), 2);
    }

    /** begin() answers how many facts there were, and keeps the pad, the slots and the history. */
    private static void beginOfAll() {
        SheetMarks x = new SheetMarks();
        DUE.is("begin of a new sheet", x.begin(2), 0);
        x.wrong(0, 0, 0);
        DUE.is("begin of one fact", x.begin(2), 1);
        DUE.is("begin of none", x.begin(5), 0);
        for (int i = 0; i < 40; i++) {
            x.wrong(i % 6, i / 6 % 6, 5);
        }
        x.save(0);
        Due.put(x, "w000");
        DUE.is("begin of 40 facts", x.begin(4), 40);
        DUE.is("facts then", x.count(1), 0);
        DUE.is("pad then", x.count(8), 4);
        DUE.is("changes then", x.count(9), 6);
        DUE.is("undo", x.undo(), 5);
        DUE.is("facts again", x.count(1), 40);
        DUE.is("players again", x.count(0), 5);
        DUE.is("begin of 40 facts again", x.begin(3), 40);
        DUE.is("restore", x.restore(0), 40);
        DUE.is("41st", x.holds(0, 0), SheetMarks.TOO_MANY);
    }

    /** The facts behind one that is taken back move up, those before it stay. */
    private static void takeBackOfForty() {
        for (int taken : new int[] {0, 1, 20, 38, 39}) {
            SheetMarks x = new SheetMarks();
            for (int i = 0; i < 40; i++) {
                x.answers(i % 3, 1, i % 6, i / 6 % 6, i / 36);
            }
            DUE.is("takeBack(" + taken + ")", x.takeBack(taken), 39);
            for (int i = 0; i < 39; i++) {
                int was = i < taken ? i : i + 1;
                DUE.is("player of " + i, x.ofFact(i, 1), was % 3);
                DUE.is("a of " + i, x.ofFact(i, 2), was % 6);
                DUE.is("b of " + i, x.ofFact(i, 3), 6 + was / 6 % 6);
                DUE.is("c of " + i, x.ofFact(i, 4), 12 + was / 36);
            }
            DUE.is("fact 39", x.ofFact(39, 0), SheetMarks.NO_SUCH);
            DUE.is("takeBack(39) then", x.takeBack(39), SheetMarks.NO_SUCH);
            DUE.is("a fact in the room of it", x.wrong(0, 0, 0), 0);
            DUE.is("it is the last one", x.ofFact(39, 0), SheetMarks.WRONG);
            DUE.is("41st", x.wrong(0, 0, 0), SheetMarks.TOO_MANY);
        }
    }

    private static void slotsAreTwo() {
        SheetMarks x = new SheetMarks();
        DUE.is("restore(0) before", x.restore(0), NOT_POSSIBLE);
        DUE.is("save(1)", x.save(1), 0);
        DUE.is("restore(0) with 1 alone", x.restore(0), NOT_POSSIBLE);
        x.holds(0, 0);
        DUE.is("save(0)", x.save(0), 1);
        x.holds(1, 1);
        DUE.is("restore(1)", x.restore(1), 0);
        DUE.is("restore(0)", x.restore(0), 1);
        DUE.is("save(2)", x.save(2), BAD_VALUE);
        DUE.is("restore(2)", x.restore(2), BAD_VALUE);
        DUE.is("save(-1)", x.save(-1), BAD_VALUE);
        DUE.is("restore(-1)", x.restore(-1), BAD_VALUE);
        DUE.is("save(1) over it", x.save(1), 1);
        x.begin(2);
        DUE.is("restore(1) of the later one", x.restore(1), 1);
        DUE.is("its card", x.ofFact(0, 2), 0);
    }

    private static void slotOfForty() {
        SheetMarks x = new SheetMarks();
        x.begin(5);
        for (int i = 0; i < 40; i++) {
            x.wrong(i % 6, i / 6 % 6, i / 36);
        }
        DUE.is("save of 40", x.save(0), 40);
        DUE.is("save is no change", x.count(9), 6);
        x.begin(2);
        DUE.is("save of none", x.save(1), 0);
        DUE.is("restore of 40", x.restore(0), 40);
        DUE.is("players of 40", x.count(0), 5);
        for (int i = 0; i < 40; i++) {
            DUE.is("a of " + i, x.ofFact(i, 2), i % 6);
            DUE.is("b of " + i, x.ofFact(i, 3), 6 + i / 6 % 6);
            DUE.is("c of " + i, x.ofFact(i, 4), 12 + i / 36);
        }
        DUE.is("restore of none", x.restore(1), 0);
        DUE.is("players then", x.count(0), 2);
        DUE.is("fact 0", x.ofFact(0, 0), SheetMarks.NO_SUCH);
        DUE.is("save of none over 40", x.save(0), 0);
        DUE.is("restore of none instead of 40", x.restore(0), 0);
        DUE.is("players in the end", x.count(0), 2);
    }

    private static void slotKeepsWhatWasSaved() {
        SheetMarks x = new SheetMarks();
        x.holds(0, 0);
        x.holds(1, 6);
        x.save(0);
        long saved = state(x);
        x.takeBack(0);
        x.answers(2, 0, 1, 1, 1);
        for (int i = 0; i < 3; i++) {
            DUE.is("restore no. " + i, x.restore(0), 2);
            DUE.is("state no. " + i, state(x), saved);
            DUE.is("mark no. " + i, x.mark(0, 0, 0) * 10 + x.mark(2, 6, 3), 12);
            x.takeBack(0);
            x.holds(2, 12 + i);
        }
        x.begin(4);
        x.undo();
        DUE.is("restore after undo", x.restore(0), 2);
        DUE.is("state after undo", state(x), saved);
    }

    private static void restoreKeepsPadAndHistory() {
        SheetMarks x = new SheetMarks();
        Due.put(x, "h0");
        x.save(0);
        x.holds(2, 2);
        Due.put(x, "a0");
        DUE.is("restore", x.restore(0), 0);
        DUE.is("pad stays", x.count(8), 4);
        DUE.is("its fault", x.fault(), SheetMarks.NONE);
        DUE.is("changes", x.count(9), 2);
        DUE.is("undo", x.undo(), 1);
        DUE.is("facts", x.count(1), 1);
        DUE.is("marks", x.mark(2, 2, 0), 1);
        DUE.is("carryOut", x.carryOut(), 1);
        DUE.is("facts then", x.count(1), 2);
    }
}
