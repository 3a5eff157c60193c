/** Promises 12 to 15: what if; nothing changes. */
public final class WhatIfTest {
    private static final Due DUE = new Due("WhatIfTest");
    // Of player 0 the cards without a mark: card 0, and all but 0, 5, 6, 8, 9, 13, 17; of five others card 0.
    private static final int DEEPER_OF_LAST_CARD = 12 + 5;

    public static void main(String[] args) {
        gain();
        gainOfBroken();
        gainErrors();
        must();
        mustOfBroken();
        mustErrors();
        deeper();
        bestQuestion();
        bestQuestionWithoutGain();
        bestQuestionErrors();
        nothingChanges();
        DUE.end();
    }

    private static void gain() {
        SheetMarks x = new SheetMarks();
        DUE.is("gain of a refusal", x.gain(0, 0, 1, 2, 3), 3);
        DUE.is("gain of a show", x.gain(0, 1, 1, 2, 3), 0);
        x.answers(0, 0, 1, 2, 0);
        DUE.is("gain of the rest of a refusal", x.gain(0, 0, 1, 2, 3), 1);
        DUE.is("gain of a refusal that was told", x.gain(0, 0, 1, 2, 0), 0);
        DUE.is("gain of a show of the last one", x.gain(0, 1, 1, 2, 3), 4);
        DUE.is("gain of a show of one of two", x.gain(0, 1, 1, 3, 3), 0);
        x.answers(1, 0, 1, 3, 3);
        DUE.is("gain of what the envelope has", x.gain(2, 0, 1, 4, 4), 3 + 1 + 5);
    }

    private static void gainOfBroken() {
        SheetMarks x = new SheetMarks();
        x.holds(0, 1);
        DUE.is("gain of a refusal of a card held", x.gain(0, 0, 1, 2, 3), SheetMarks.NONE);
        x.answers(0, 0, 0, 2, 3);
        DUE.is("gain of a show of three that are no", x.gain(0, 1, 0, 2, 3), SheetMarks.NONE);
        x.answers(0, 0, 1, 2, 3);
        DUE.is("broken", x.count(6), 1);
        DUE.is("gain of a refusal with a broken sheet", x.gain(2, 0, 5, 5, 5), SheetMarks.NONE);
        DUE.is("gain of a show with a broken sheet", x.gain(2, 1, 5, 5, 5), SheetMarks.NONE);
    }

    private static void gainErrors() {
        SheetMarks x = new SheetMarks();
        int[][] noSuch = {{3, 0, 0, 0, 0}, {-1, 2, 0, 0, 0}, {5, 0, 0, 0, 0}, {0, 0, 6, 0, 0}, {0, 0, -1, 0, 0},
            {0, 9, 0, 6, 0}, {0, 0, 0, -1, 0}, {0, 1, 0, 0, 6}, {0, 1, 0, 0, -1}, {0, 1, 0, 0, Integer.MAX_VALUE}};
        for (int[] b : noSuch) {
            DUE.is("gain of no such", x.gain(b[0], b[1], b[2], b[3], b[4]), SheetMarks.NO_SUCH);
        }
        DUE.is("gain(0, 2, ..)", x.gain(0, 2, 0, 0, 0), SheetMarks.BAD_VALUE);
        DUE.is("gain(0, -1, ..)", x.gain(0, -1, 0, 0, 0), SheetMarks.BAD_VALUE);
    }

    private static void must() {
        SheetMarks x = new SheetMarks();
        DUE.is("must of nothing", x.must(0, 0), 0);
        x.holds(0, 0);
        DUE.is("must of a yes", x.must(0, 0), 1);
        DUE.is("must of a no", x.must(1, 0), 2);
        DUE.is("must of the envelope's no", x.must(5, 0), 2);
        DUE.is("must of no mark", x.must(1, 1), 0);
        SheetMarks y = new SheetMarks();
        y.begin(5);
        y.holds(0, 6);
        y.holds(0, 13);
        y.answers(0, 1, 0, 2, 2);
        y.answers(0, 1, 0, 3, 3);
        DUE.is("must of a show of three open ones", y.must(0, 0), 0);
        DUE.is("must of what would be the last card", y.must(0, 8), 2);
        y.answers(0, 0, 5, 2, 5);
        y.answers(0, 0, 5, 3, 5);
        DUE.is("no mark of what must be", y.mark(0, 0, 0), 0);
        DUE.is("must by the contrary", y.must(0, 0), 1);
        DUE.is("no mark of what would take its place", y.mark(0, 14, 0), 0);
        DUE.is("must of what would take its place", y.must(0, 14), 2);
    }

    private static void mustOfBroken() {
        SheetMarks x = new SheetMarks();
        x.holds(0, 0);
        x.holds(1, 0);
        for (int card = 0; card < 18; card++) {
            DUE.is("must(0, " + card + ") of a broken sheet", x.must(0, card), 3);
            DUE.is("must(5, " + card + ") of a broken sheet", x.must(5, card), 3);
        }
        DUE.is("deeper of a broken sheet", x.deeper(), x.count(4));
    }

    private static void mustErrors() {
        SheetMarks x = new SheetMarks();
        int[][] bad = {{3, 0}, {4, 0}, {-1, 0}, {6, 0}, {0, -1}, {0, 18}, {5, 18}, {Integer.MIN_VALUE, 0},
            {0, Integer.MAX_VALUE}};
        for (int[] b : bad) {
            DUE.is("must(" + b[0] + ", " + b[1] + ")", x.must(b[0], b[1]), SheetMarks.NO_SUCH);
        }
    }

    private static void deeper() {
        SheetMarks x = new SheetMarks();
        DUE.is("deeper of nothing", x.deeper(), 0);
        x.holds(0, 0);
        DUE.is("deeper without what has marks", x.deeper(), 0);
        SheetMarks z = new SheetMarks();
        z.begin(5);
        z.holds(0, 6);
        z.holds(0, 13);
        z.answers(0, 1, 0, 2, 2);
        z.answers(0, 1, 0, 3, 3);
        z.answers(0, 0, 5, 2, 5);
        z.answers(0, 0, 5, 3, 5);
        // Player 0 has card 0 and so nothing else; then nobody else has it.
        DUE.is("deeper of one whose last card must be card 0", z.deeper(), DEEPER_OF_LAST_CARD);
        SheetMarks y = new SheetMarks();
        y.begin(5);
        y.holds(0, 6);
        y.holds(0, 13);
        y.answers(0, 1, 0, 2, 2);
        y.answers(0, 1, 0, 3, 3);
        int found = 0;
        for (int owner = 0; owner <= 5; owner++) {
            for (int card = 0; card < 18; card++) {
                found += y.mark(owner, card, 0) == 0 && y.must(owner, card) != 0 ? 1 : 0;
            }
        }
        DUE.is("deeper", y.deeper(), found);
        DUE.is("more than nothing", found > 0 ? 1 : 0, 1);
    }

    private static void bestQuestion() {
        SheetMarks x = new SheetMarks();
        for (int player = 0; player < 3; player++) {
            x.answers(player, 0, player, player, player);
        }
        x.answers(1, 0, 4, 2, 3);
        int[] best = {0, 0, 0, -1};
        for (int q = 0; q < 216; q++) {
            int refused = x.gain(1, 0, q / 36, q / 6 % 6, q % 6);
            int shown = x.gain(1, 1, q / 36, q / 6 % 6, q % 6);
            int lesser = refused == SheetMarks.NONE ? Math.max(shown, 0) : shown == SheetMarks.NONE ? refused
                    : Math.min(refused, shown);
            if (lesser > best[3]) {
                best = new int[] {q / 36, q / 6 % 6, q % 6, lesser};
            }
        }
        for (int what = 0; what < 4; what++) {
            DUE.is("bestQuestion(1, " + what + ")", x.bestQuestion(1, what), best[what]);
        }
        DUE.is("more than nothing", best[3] > 0 ? 1 : 0, 1);
    }

    private static void bestQuestionWithoutGain() {
        SheetMarks x = new SheetMarks();
        int[] first = {0, 0, 0, 0};
        for (int what = 0; what < 4; what++) {
            DUE.is("bestQuestion of a new sheet", x.bestQuestion(2, what), first[what]);
        }
        x.holds(2, 3);
        DUE.is("a NONE is left out: lesser gain", x.bestQuestion(2, 3), 0);
        x.holds(0, 3);
        DUE.is("broken", x.count(6), 1);
        for (int what = 0; what < 4; what++) {
            DUE.is("bestQuestion of a broken sheet", x.bestQuestion(2, what), first[what]);
        }
    }

    private static void bestQuestionErrors() {
        SheetMarks x = new SheetMarks();
        int[] noSuch = {3, 5, -1, Integer.MAX_VALUE, Integer.MIN_VALUE};
        for (int player : noSuch) {
            DUE.is("bestQuestion(" + player + ", 9)", x.bestQuestion(player, 9), SheetMarks.NO_SUCH);
        }
        DUE.is("bestQuestion(0, 4)", x.bestQuestion(0, 4), SheetMarks.BAD_VALUE);
        DUE.is("bestQuestion(0, -1)", x.bestQuestion(0, -1), SheetMarks.BAD_VALUE);
    }

    private static void nothingChanges() {
        SheetMarks x = new SheetMarks();
        x.holds(0, 0);
        x.answers(1, 1, 1, 1, 1);
        int[] before = new int[10];
        for (int what = 0; what < 10; what++) {
            before[what] = x.count(what);
        }
        x.gain(1, 0, 1, 1, 2);
        x.must(1, 1);
        x.deeper();
        x.bestQuestion(1, 0);
        for (int what = 0; what < 10; what++) {
            DUE.is("count(" + what + ") after what if", x.count(what), before[what]);
        }
        DUE.is("mark's round after what if", x.mark(1, 0, 3), 2);
        DUE.is("mark's rule after what if", x.mark(1, 0, 4), 2);
        DUE.is("no more facts after what if", x.ofFact(2, 0), SheetMarks.NO_SUCH);
    }
}
