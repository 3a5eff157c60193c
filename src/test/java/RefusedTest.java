/**
 * Calls that are refused: of several errors the one that the document names first; and nothing changes, neither
 * what can be looked at, nor the history, the slots and the pad. So do the calls that only look.
 */
public final class RefusedTest {
    private static final Due DUE = new Due("RefusedTest");
    private static final int NO_SUCH = SheetMarks.NO_SUCH, BAD_VALUE = SheetMarks.BAD_VALUE;
    private static final int BAD_TEXT = SheetMarks.BAD_TEXT, TOO_MANY = SheetMarks.TOO_MANY;
    private static final int NOT_POSSIBLE = SheetMarks.NOT_POSSIBLE, NONE = SheetMarks.NONE;

    interface Sheet {
        SheetMarks make();
    }

    interface Call {
        int on(SheetMarks x);
    }

    public static void main(String[] args) {
        Sheet[] sheets = {SheetMarks::new, RefusedTest::some, RefusedTest::full, RefusedTest::broken};
        for (Sheet sheet : sheets) {
            changes(sheet);
            looks(sheet);
            others(sheet);
        }
        ofNewSheet();
        ofFullSheet();
        ofBrokenSheet();
        onlyLooking();
        DUE.end();
    }

    /** 3 players, some facts, a whole history, both slots, and a pad with a fault. */
    private static SheetMarks some() {
        SheetMarks x = new SheetMarks();
        x.begin(5);
        x.save(0);
        x.begin(3);
        x.holds(0, 0);
        x.save(1);
        x.answers(1, 1, 1, 2, 3);
        x.wrong(1, 1, 1);
        x.takeBack(1);
        x.answers(1, 0, 2, 2, 2);
        x.holds(2, 17);
        Due.put(x, "h0a0;h0");
        return x;
    }

    /** 40 facts, 80 characters, 6 states. */
    private static SheetMarks full() {
        SheetMarks x = new SheetMarks();
        x.save(1);
        for (int i = 0; i < 40; i++) {
            x.wrong(i % 6, i / 6 % 6, 0);
        }
        x.save(0);
        for (int i = 0; i < 16; i++) {
            Due.put(x, "h0a0;");
        }
        return x;
    }

    private static SheetMarks broken() {
        SheetMarks x = new SheetMarks();
        x.begin(2);
        x.holds(0, 0);
        x.holds(1, 0);
        x.save(0);
        x.undo();
        x.restore(0);
        return x;
    }

    private static void refused(String name, Sheet sheet, Call call, int want) {
        SheetMarks x = sheet.make();
        DUE.is(name, call.on(x), want);
        same(name, x, sheet.make());
    }

    /** Two objects answer the same, then as long as something can be undone, then after what is in their slots. */
    private static void same(String name, SheetMarks x, SheetMarks y) {
        sameFacts(name, x, y);
        sameMarks(name, x, y);
        for (int i = 0; i < 7; i++) {
            DUE.is(name + ": undo no. " + i, x.undo(), y.undo());
            sameMarks(name + ": undo no. " + i, x, y);
        }
        for (int slot = 1; slot >= 0; slot--) {
            DUE.is(name + ": restore(" + slot + ")", x.restore(slot), y.restore(slot));
            sameMarks(name + ": restore(" + slot + ")", x, y);
        }
        DUE.is(name + ": put", x.put(';'), y.put(';'));
        DUE.is(name + ": fault with more", x.fault(), y.fault());
        DUE.is(name + ": wipe", x.wipe(), y.wipe());
    }

    private static void sameFacts(String name, SheetMarks x, SheetMarks y) {
        DUE.is(name + ": fault", x.fault(), y.fault());
        for (int fact = 0; fact < y.count(1); fact++) {
            for (int what = 0; what < 4; what++) {
                DUE.is(name + ": ofFact(" + fact + ", " + what + ")", x.ofFact(fact, what), y.ofFact(fact, what));
            }
        }
    }

    private static void sameMarks(String name, SheetMarks x, SheetMarks y) {
        for (int what = 0; what < 10; what++) {
            DUE.is(name + ": count(" + what + ")", x.count(what), y.count(what));
        }
        for (int owner = 0; owner < 6; owner++) {
            DUE.is(name + ": yes of " + owner, x.ofOwner(owner, 1), y.ofOwner(owner, 1));
            DUE.is(name + ": no of " + owner, x.ofOwner(owner, 2), y.ofOwner(owner, 2));
        }
    }

    private static void changes(Sheet s) {
        refused("begin(1)", s, x -> x.begin(1), BAD_VALUE);
        refused("begin(6)", s, x -> x.begin(6), BAD_VALUE);
        refused("holds(-1, 0)", s, x -> x.holds(-1, 0), NO_SUCH);
        refused("holds of a player too many", s, x -> x.holds(x.count(0), 0), NO_SUCH);
        refused("holds of the envelope", s, x -> x.holds(5, 0), NO_SUCH);
        refused("holds(0, -1)", s, x -> x.holds(0, -1), NO_SUCH);
        refused("holds(0, 18)", s, x -> x.holds(0, 18), NO_SUCH);
        refused("answers(-1, 0, 0, 0, 0)", s, x -> x.answers(-1, 0, 0, 0, 0), NO_SUCH);
        refused("answers of a player too many", s, x -> x.answers(x.count(0), 1, 0, 0, 0), NO_SUCH);
        refused("answers: player and shows", s, x -> x.answers(5, 2, 0, 0, 0), NO_SUCH);
        refused("answers: a and shows", s, x -> x.answers(0, 2, 6, 0, 0), NO_SUCH);
        refused("answers: b and shows", s, x -> x.answers(0, -1, 0, -1, 0), NO_SUCH);
        refused("answers: c and shows", s, x -> x.answers(0, 2, 0, 0, 6), NO_SUCH);
        refused("answers: shows", s, x -> x.answers(0, 2, 0, 0, 0), BAD_VALUE);
        refused("answers: shows below", s, x -> x.answers(0, -1, 0, 0, 0), BAD_VALUE);
        refused("wrong(6, 0, 0)", s, x -> x.wrong(6, 0, 0), NO_SUCH);
        refused("wrong(0, -1, 0)", s, x -> x.wrong(0, -1, 0), NO_SUCH);
        refused("wrong(0, 0, 6)", s, x -> x.wrong(0, 0, 6), NO_SUCH);
        refused("takeBack(-1)", s, x -> x.takeBack(-1), NO_SUCH);
        refused("takeBack of one too many", s, x -> x.takeBack(x.count(1)), NO_SUCH);
    }

    private static void looks(Sheet s) {
        refused("mark: owner and what", s, x -> x.mark(-1, 0, 5), NO_SUCH);
        refused("mark: card and what", s, x -> x.mark(5, 18, -1), NO_SUCH);
        refused("mark: what of a card that is not", s, x -> x.mark(5, -1, 1), NO_SUCH);
        refused("mark: what", s, x -> x.mark(5, 0, 5), BAD_VALUE);
        refused("ofOwner: owner and what", s, x -> x.ofOwner(6, 4), NO_SUCH);
        refused("ofOwner: what", s, x -> x.ofOwner(5, 4), BAD_VALUE);
        refused("ofFact: fact and what", s, x -> x.ofFact(x.count(1), 5), NO_SUCH);
        refused("ofFact: NONE of a fact that is not", s, x -> x.ofFact(-1, 1), NO_SUCH);
        refused("count(10)", s, x -> x.count(10), BAD_VALUE);
        refused("count(-1)", s, x -> x.count(-1), BAD_VALUE);
        refused("envelope: kind and what", s, x -> x.envelope(3, 2), NO_SUCH);
        refused("envelope: NONE of a kind that is not", s, x -> x.envelope(-1, 0), NO_SUCH);
        refused("envelope: what", s, x -> x.envelope(2, 2), BAD_VALUE);
        refused("gain: player and shows", s, x -> x.gain(x.count(0), 2, 0, 0, 0), NO_SUCH);
        refused("gain: a and shows", s, x -> x.gain(0, 2, -1, 0, 0), NO_SUCH);
        refused("gain: b and shows", s, x -> x.gain(0, -1, 0, 6, 0), NO_SUCH);
        refused("gain: c and shows", s, x -> x.gain(0, 2, 0, 0, 6), NO_SUCH);
        refused("gain: shows", s, x -> x.gain(0, 2, 0, 0, 0), BAD_VALUE);
        refused("must: owner", s, x -> x.must(6, 0), NO_SUCH);
        refused("must: card", s, x -> x.must(5, 18), NO_SUCH);
        refused("bestQuestion: player and what", s, x -> x.bestQuestion(x.count(0), 4), NO_SUCH);
        refused("bestQuestion: what", s, x -> x.bestQuestion(0, 4), BAD_VALUE);
        refused("bestQuestion: what below", s, x -> x.bestQuestion(0, -1), BAD_VALUE);
    }

    private static void others(Sheet s) {
        refused("put(0)", s, x -> x.put(0), BAD_VALUE);
        refused("put(32)", s, x -> x.put(32), BAD_VALUE);
        refused("put(127)", s, x -> x.put(127), BAD_VALUE);
        refused("put with a gap", s, x -> x.put((long) 'h' << 16 | 'h'), BAD_VALUE);
        refused("put that ends in a gap", s, x -> x.put((long) 'h' << 8), BAD_VALUE);
        refused("put of good ones before a bad one", s, x -> x.put(Due.packed("h0a0;h0") << 8 | 32), BAD_VALUE);
        refused("carryOut with a fault", s, x -> x.carryOut(), BAD_TEXT);
        refused("save(-1)", s, x -> x.save(-1), BAD_VALUE);
        refused("save(2)", s, x -> x.save(2), BAD_VALUE);
        refused("restore(-1)", s, x -> x.restore(-1), BAD_VALUE);
        refused("restore(2)", s, x -> x.restore(2), BAD_VALUE);
    }

    private static void ofNewSheet() {
        Sheet s = SheetMarks::new;
        refused("undo of nothing", s, x -> x.undo(), NOT_POSSIBLE);
        refused("restore(0) of nothing", s, x -> x.restore(0), NOT_POSSIBLE);
        refused("restore(1) of nothing", s, x -> x.restore(1), NOT_POSSIBLE);
        refused("takeBack(0) of nothing", s, x -> x.takeBack(0), NO_SUCH);
        refused("carryOut of nothing", s, x -> x.carryOut(), BAD_TEXT);
        refused("wipe of nothing", s, x -> x.wipe(), 0);
        Sheet all = () -> {
            SheetMarks x = some();
            for (int i = 0; i < 6; i++) {
                x.undo();
            }
            return x;
        };
        refused("undo of what was dropped", all, x -> x.undo(), NOT_POSSIBLE);
    }

    private static void ofFullSheet() {
        Sheet s = RefusedTest::full;
        refused("holds with 40", s, x -> x.holds(0, 0), TOO_MANY);
        refused("answers with 40: refusal", s, x -> x.answers(0, 0, 0, 0, 0), TOO_MANY);
        refused("answers with 40: show", s, x -> x.answers(2, 1, 5, 5, 5), TOO_MANY);
        refused("wrong with 40", s, x -> x.wrong(0, 0, 0), TOO_MANY);
        refused("put of 1 with 80", s, x -> x.put('h'), TOO_MANY);
        refused("put of 8 with 80", s, x -> x.put(Due.packed("h0a0;h0a")), TOO_MANY);
        refused("ofFact(40, 0)", s, x -> x.ofFact(40, 0), NO_SUCH);
        refused("gain with 40: refusal", s, x -> x.gain(0, 0, 0, 0, 0), 3);
        refused("gain with 40: show", s, x -> x.gain(0, 1, 0, 0, 0), 0);
        refused("bestQuestion with 40", s, x -> x.bestQuestion(0, 3), 0);
        refused("must with 40", s, x -> x.must(0, 0), 0);
        refused("deeper with 40", s, x -> x.deeper(), 0);
        refused("fault with 80", s, x -> x.fault(), 80);
    }

    /** NONE is no error, and comes only if no error applies. */
    private static void ofBrokenSheet() {
        Sheet s = RefusedTest::broken;
        refused("gain: NONE", s, x -> x.gain(0, 1, 0, 0, 0), NONE);
        refused("gain: NONE and shows", s, x -> x.gain(0, 2, 0, 0, 0), BAD_VALUE);
        refused("gain: NONE and player", s, x -> x.gain(2, 1, 0, 0, 0), NO_SUCH);
        refused("ofFact: NONE", s, x -> x.ofFact(0, 3), NONE);
        refused("mark: NONE", s, x -> x.mark(0, 1, 1), NONE);
        refused("mark: NONE and card", s, x -> x.mark(0, 18, 1), NO_SUCH);
        refused("envelope: NONE", s, x -> x.envelope(0, 0), NONE);
        refused("must: both", s, x -> x.must(5, 17), 3);
        refused("deeper: all without a mark", s, x -> x.deeper(), x -> x.count(4));
        refused("bestQuestion: both NONE", s, x -> x.bestQuestion(1, 3), 0);
    }

    private static void refused(String name, Sheet sheet, Call call, Call want) {
        refused(name, sheet, call, want.on(sheet.make()));
    }

    private static void onlyLooking() {
        Sheet s = RefusedTest::some;
        refused("mark", s, x -> x.mark(0, 0, 0), 1);
        refused("ofOwner", s, x -> x.ofOwner(0, 1), 1);
        refused("ofFact", s, x -> x.ofFact(0, 2), 0);
        refused("envelope", s, x -> x.envelope(0, 1), 62);
        refused("gain of a refusal", s, x -> x.gain(0, 0, 5, 5, 4), 3);
        refused("gain of what would break", s, x -> x.gain(0, 0, 0, 5, 5), NONE);
        refused("must of a yes", s, x -> x.must(0, 0), 1);
        refused("must of a no", s, x -> x.must(1, 0), 2);
        refused("deeper", s, x -> x.deeper(), 0);
        refused("bestQuestion", s, x -> x.bestQuestion(0, 0), x -> x.bestQuestion(0, 0));
        refused("fault", s, x -> x.fault(), 7);
        refused("count", s, x -> x.count(5), 2);
    }
}
