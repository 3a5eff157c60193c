/** Promises 12 to 15 where they begin and end: what a new, a solved, a full and a broken sheet would bring. */
public final class QuestionsTest {
    private static final Due DUE = new Due("QuestionsTest");
    private static final int NONE = SheetMarks.NONE;
    private static final int ENVELOPE = 5;

    interface Sheet {
        SheetMarks make();
    }

    public static void main(String[] args) {
        newSheet();
        solvedSheet();
        brokenSheet();
        gainOfEach();
        gainWithForty();
        gainOfWhatIsKnown();
        mustOfAContradiction();
        mustOfTheEnvelope();
        mustOfEachMark();
        deeperLeavesOutMarks();
        Sheet[] sheets = {SheetMarks::new, QuestionsTest::solved, QuestionsTest::broken, QuestionsTest::contradictory,
            QuestionsTest::refusalWouldBreak, QuestionsTest::showWouldBreak, QuestionsTest::firstIsBest,
            QuestionsTest::lastIsBest, QuestionsTest::oneIsBest, QuestionsTest::someOfForty};
        for (Sheet sheet : sheets) {
            bestQuestionOf(sheet);
            deeperOf(sheet);
        }
        bestIs("a refusal that would break", refusalWouldBreak(), 0, 0, 0, 2, 3);
        bestIs("a show that would break", showWouldBreak(), 4, 0, 1, 3, 1);
        bestIs("the first question", firstIsBest(), 0, 0, 0, 0, 1);
        bestIs("the last question", lastIsBest(), 2, 5, 5, 5, 6);
        bestIs("one question alone", oneIsBest(), 1, 3, 2, 2, 2);
        bestIs("none", new SheetMarks(), 2, 0, 0, 0, 0);
        // Only with two of the three refused a show tells more, and player 0 lacks just one card.
        bestIs("one card of another player", of(3, "h1a0"), 0, 0, 0, 0, 0);
        bestIs("one card of another player", of(3, "h1b5"), 0, 0, 0, 0, 0);
        bestIs("one card of another player", of(3, "h1c5"), 0, 0, 0, 0, 0);
        bestIs("both NONE", broken(), 1, 0, 0, 0, 0);
        DUE.end();
    }

    /** Facts as in the texts of the pad, carried out in parts that fit. */
    private static SheetMarks of(int players, String... orders) {
        SheetMarks x = new SheetMarks();
        x.begin(players);
        for (String order : orders) {
            Due.put(x, order);
            DUE.is("carryOut of " + order, x.carryOut() > 0 ? 1 : 0, 1);
        }
        return x;
    }

    /** 2 players; the envelope has the cards 5, 11 and 17. */
    private static SheetMarks solved() {
        return of(2, "h0a0;h0a1;h0a2;h0a3;h0a4;h0b0;h0b1;h0b2", "h1b3;h1b4;h1c0;h1c1;h1c2;h1c3;h1c4");
    }

    private static SheetMarks broken() {
        return of(2, "h0a0;h1a0");
    }

    /** Player 3 has 16 and 17, and room for one more card: one of 3, 8 and 12, and one of 5 and 6 as well. */
    private static SheetMarks contradictory() {
        return of(4, "h3c4;h3c5;h0c1;s3320;s3501");
    }

    /** Without card 6 player 0 would have all of 1, 11 and 12, of which player 1 has one. */
    private static SheetMarks refusalWouldBreak() {
        return of(2, "s1150;w352;r0242;r0333;r0024;s0102");
    }

    private static SheetMarks showWouldBreak() {
        return of(5, "s2052;s1445;h0b1;r3233;h4c2;s1053;h0c3");
    }

    private static SheetMarks firstIsBest() {
        return of(5, "r0251;r0200");
    }

    private static SheetMarks lastIsBest() {
        return of(5, "r2551;w255;s0544;s2535;s3402;r3032");
    }

    private static SheetMarks oneIsBest() {
        return of(2, "h0a3;h0b2;r0102");
    }

    private static SheetMarks someOfForty() {
        SheetMarks x = of(3, "r0120;h1a4;r2333;s2450");
        while (x.count(1) < 40) {
            x.wrong(0, 0, 0);
        }
        return x;
    }

    private static void newSheet() {
        for (int players = 2; players <= 5; players++) {
            SheetMarks x = new SheetMarks();
            x.begin(players);
            for (int player = 0; player < players; player++) {
                DUE.is("gain of a refusal", x.gain(player, 0, player, 5, 0), 3);
                DUE.is("gain of a show", x.gain(player, 1, player, 5, 0), 0);
                DUE.is("must", x.must(player, 3 * player), 0);
                DUE.is("best", x.bestQuestion(player, 3), 0);
            }
            for (int card = 0; card < 18; card++) {
                DUE.is("must of the envelope", x.must(ENVELOPE, card), 0);
            }
            DUE.is("deeper", x.deeper(), 0);
        }
    }

    private static void solvedSheet() {
        SheetMarks x = solved();
        DUE.is("solved: kinds", x.count(7), 3);
        DUE.is("solved: without a mark", x.count(4), 0);
        DUE.is("solved: deeper", x.deeper(), 0);
        DUE.is("solved: gain of what is so", x.gain(0, 0, 5, 5, 5), 0);
        DUE.is("solved: gain of a show of what is so", x.gain(0, 1, 0, 5, 5), 0);
        DUE.is("solved: gain of what is not so", x.gain(0, 0, 0, 5, 5), NONE);
        DUE.is("solved: gain of a show of what is not so", x.gain(0, 1, 5, 5, 5), NONE);
        DUE.is("solved: best", x.bestQuestion(0, 3), 0);
        for (int card = 0; card < 18; card++) {
            int owner = card % 6 == 5 ? ENVELOPE : card < 9 ? 0 : 1;
            DUE.is("solved: must of card " + card, x.must(owner, card), 1);
            DUE.is("solved: must of the other's", x.must(owner == 0 ? 1 : 0, card), 2);
        }
    }

    private static void brokenSheet() {
        SheetMarks x = broken();
        DUE.is("broken", x.count(6), 1);
        for (int card = 0; card < 18; card++) {
            for (int owner : new int[] {0, 1, ENVELOPE}) {
                DUE.is("broken: must(" + owner + ", " + card + ")", x.must(owner, card), 3);
            }
        }
        DUE.is("broken: deeper", x.deeper(), x.count(4));
        for (int q = 0; q < 6; q++) {
            DUE.is("broken: gain of a refusal", x.gain(q % 2, 0, q, q, q), NONE);
            DUE.is("broken: gain of a show", x.gain(q % 2, 1, q, q, q), NONE);
        }
    }

    /** A gain is how many marks there are more when the fact is told, NONE if the sheet is broken then. */
    private static void gainOfEach() {
        Sheet[] sheets = {QuestionsTest::contradictory, QuestionsTest::refusalWouldBreak, QuestionsTest::lastIsBest};
        for (Sheet sheet : sheets) {
            SheetMarks x = sheet.make();
            int before = x.count(2) + x.count(3);
            for (int i = 0; i < 24; i++) {
                int player = i % x.count(0);
                int a = i * 7 % 6;
                int b = i / 2 % 6;
                int c = (i + 2) % 6;
                for (int shows = 0; shows <= 1; shows++) {
                    int gain = x.gain(player, shows, a, b, c);
                    SheetMarks y = sheet.make();
                    int then = y.answers(player, shows, a, b, c);
                    DUE.is("gain", gain, y.count(6) == 1 ? NONE : then - before);
                }
            }
        }
    }

    private static void gainWithForty() {
        SheetMarks x = of(3, "r0120");
        while (x.count(1) < 40) {
            x.wrong(0, 0, 0);
        }
        DUE.is("with 40: a show that leaves one card", x.gain(0, 1, 1, 2, 3), 4);
        DUE.is("with 40: a show that breaks", x.gain(0, 1, 1, 2, 0), NONE);
        DUE.is("with 40: a refusal", x.gain(0, 0, 1, 2, 3), 1);
        DUE.is("with 40: a refusal that was told", x.gain(0, 0, 1, 2, 0), 0);
        DUE.is("with 40: best of a refusal or a show", x.bestQuestion(0, 3), 1);
        DUE.is("with 40: it is no fact", x.count(1), 40);
        DUE.is("with 40: the last fact", x.ofFact(39, 0), SheetMarks.WRONG);
        DUE.is("with 40: no marks of it", x.count(2) + x.count(3), 3);
        DUE.is("with 40: answers is refused", x.answers(0, 1, 1, 2, 3), SheetMarks.TOO_MANY);
        DUE.is("with 40: gain is the same again", x.gain(0, 1, 1, 2, 3), 4);
    }

    private static void gainOfWhatIsKnown() {
        SheetMarks x = of(3, "h0a0;r1123;s2231");
        DUE.is("a show of a card held", x.gain(0, 1, 0, 5, 5), 0);
        DUE.is("a refusal of a card held", x.gain(0, 0, 0, 5, 5), NONE);
        DUE.is("a refusal again", x.gain(1, 0, 1, 2, 3), 0);
        DUE.is("a refusal with one new card", x.gain(1, 0, 1, 2, 4), 1);
        DUE.is("a refusal with two new cards", x.gain(1, 0, 1, 4, 4), 2);
        DUE.is("a refusal with three new cards", x.gain(1, 0, 4, 4, 4), 3);
        DUE.is("a show of three refused", x.gain(1, 1, 1, 2, 3), NONE);
        DUE.is("a show with one that was not refused", x.gain(1, 1, 1, 2, 4), 4);
        DUE.is("a show with two that were not refused", x.gain(1, 1, 1, 4, 4), 0);
        DUE.is("a show again", x.gain(2, 1, 2, 3, 1), 0);
        DUE.is("a refusal of what was shown", x.gain(2, 0, 2, 3, 1), NONE);
        DUE.is("a refusal of two of what was shown", x.gain(2, 0, 2, 3, 4), 3 + 4);
    }

    private static void mustOfAContradiction() {
        SheetMarks x = contradictory();
        DUE.is("the rules do not see it", x.count(6), 0);
        int[] without = {5, 6, 3, 8, 12, 4, 0};
        int[] must = {3, 3, 2, 2, 2, 2, 2};
        for (int i = 0; i < without.length; i++) {
            DUE.is("no mark of card " + without[i], x.mark(3, without[i], 0), 0);
            DUE.is("must(3, " + without[i] + ")", x.must(3, without[i]), must[i]);
        }
        DUE.is("must of a yes", x.must(3, 16), 1);
        DUE.is("must of a no", x.must(3, 13), 2);
        DUE.is("must of another player, who leaves one of two", x.must(0, 5), 2);
        DUE.is("must of another player, who leaves two of three", x.must(0, 3), 0);
    }

    private static void mustOfTheEnvelope() {
        // Player 0's fifth card is 6 or 15; the others refuse 9.
        SheetMarks has = of(3, "h0a2;h0b4;h0b5;h0c1;h1a0;s0003;r1431;r2531");
        DUE.is("the envelope must have 9: no mark", has.mark(ENVELOPE, 9, 0), 0);
        DUE.is("the envelope must have 9", has.must(ENVELOPE, 9), 1);
        DUE.is("player 0 can't have 9", has.must(0, 9), 2);
        DUE.is("the envelope can't have 7 then", has.must(ENVELOPE, 7), 2);
        DUE.is("of another kind the envelope may have 12", has.must(ENVELOPE, 12), 0);
        // Each of two players has 6 or 15.
        SheetMarks hasNot = of(3, "h1a1;s0103;s1503;r1524");
        DUE.is("the envelope can't have 6: no mark", hasNot.mark(ENVELOPE, 6, 0), 0);
        DUE.is("the envelope can't have 6", hasNot.must(ENVELOPE, 6), 2);
        DUE.is("the envelope can't have 15", hasNot.must(ENVELOPE, 15), 2);
        DUE.is("player 2 can't have 6", hasNot.must(2, 6), 2);
        DUE.is("player 0 may have 6", hasNot.must(0, 6), 0);
    }

    private static void mustOfEachMark() {
        SheetMarks x = refusalWouldBreak();
        for (int owner : new int[] {0, 1, ENVELOPE}) {
            for (int card = 0; card < 18; card++) {
                int mark = x.mark(owner, card, 0);
                if (mark != 0) {
                    DUE.is("must of a mark", x.must(owner, card), mark);
                }
            }
        }
        DUE.is("must of card 6", x.must(0, 6), 1);
        DUE.is("no mark of card 6", x.mark(0, 6, 0), 0);
    }

    private static void deeperLeavesOutMarks() {
        SheetMarks x = of(3, "h0a0;r1123");
        DUE.is("marks alone", x.deeper(), 0);
        SheetMarks y = of(3, "h1a1;s0103;s1503;r1524");
        // Cards 6 and 15, neither for the envelope nor for player 2.
        DUE.is("two cards of two owners", y.deeper(), 4);
    }

    private static void deeperOf(Sheet sheet) {
        int found = 0;
        SheetMarks x = sheet.make();
        for (int owner = 0; owner <= ENVELOPE; owner++) {
            int without = x.ofOwner(owner, 3);
            for (int card = 0; card < 18 && without >= 0; card++) {
                found += (without >> card & 1) != 0 && x.must(owner, card) != 0 ? 1 : 0;
            }
        }
        DUE.is("deeper", x.deeper(), found);
    }

    private static void bestIs(String name, SheetMarks x, int player, int a, int b, int c, int gain) {
        int[] want = {a, b, c, gain};
        for (int what = 0; what < 4; what++) {
            DUE.is(name + ": bestQuestion(" + player + ", " + what + ")", x.bestQuestion(player, what), want[what]);
        }
    }

    /** All questions in their order; a sheet for each card of kind 0, since it is used for 512 calls at most. */
    private static void bestQuestionOf(Sheet sheet) {
        for (int player = 0; player < sheet.make().count(0); player++) {
            int[] best = {0, 0, 0, -1};
            for (int a = 0; a < 6; a++) {
                SheetMarks x = sheet.make();
                for (int q = 0; q < 36; q++) {
                    int lesser = lesser(x.gain(player, 0, a, q / 6, q % 6), x.gain(player, 1, a, q / 6, q % 6));
                    if (lesser > best[3]) {
                        best = new int[] {a, q / 6, q % 6, lesser};
                    }
                }
            }
            bestIs("all questions", sheet.make(), player, best[0], best[1], best[2], best[3]);
        }
    }

    private static int lesser(int refused, int shown) {
        if (refused == NONE || shown == NONE) {
            return Math.max(0, Math.max(refused, shown));
        }
        return Math.min(refused, shown);
    }
}
