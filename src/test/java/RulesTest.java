/** The section "Marks": each rule, each way to break the sheet, and each round where it just begins and just does not. */
public final class RulesTest {
    private static final Due DUE = new Due("RulesTest");
    private static final int ALL = 262143;
    private static final int ENVELOPE = 5;

    public static void main(String[] args) {
        rounds();
        madeAnew();
        ruleTwo();
        for (int players = 2; players <= 5; players++) {
            ruleThree(players);
            handFills(players, 0);
            handFills(players, players - 1);
            handRunsShort(players, 0);
            handRunsShort(players, players - 1);
            cardOfNobody(players);
        }
        for (int kind = 0; kind < 3; kind++) {
            envelopeHasOne(kind);
            envelopeHasTwo(kind);
            envelopeRunsShort(kind);
            showNeedsTwo(kind);
            wrongNeedsTwo(kind);
        }
        twoBeforeFour();
        twoBeforeSeven();
        fourBeforeSeven();
        threeBeforeFive();
        threeBeforeSix();
        fiveBeforeSix();
        earlierRoundBeforeLowerRule();
        DUE.end();
    }

    private static SheetMarks sheetOf(int players) {
        SheetMarks x = new SheetMarks();
        x.begin(players);
        return x;
    }

    private static void yes(String name, SheetMarks x, int owner, int card, int round, int rule) {
        DUE.is(name + ": mark(" + owner + ", " + card + ", 0)", x.mark(owner, card, 0), 1);
        DUE.is(name + ": round", x.mark(owner, card, 1), round);
        DUE.is(name + ": rule", x.mark(owner, card, 2), rule);
    }

    private static void no(String name, SheetMarks x, int owner, int card, int round, int rule) {
        DUE.is(name + ": mark(" + owner + ", " + card + ", 0)", x.mark(owner, card, 0), 2);
        DUE.is(name + ": round", x.mark(owner, card, 3), round);
        DUE.is(name + ": rule", x.mark(owner, card, 4), rule);
    }

    private static int marks(SheetMarks x) {
        return x.count(2) + x.count(3);
    }

    /** The round in which no mark is made is not counted. */
    private static void rounds() {
        SheetMarks x = new SheetMarks();
        DUE.is("rounds of no fact", x.count(5), 0);
        x.wrong(0, 0, 0);
        DUE.is("rounds of a wrong guess alone", x.count(5), 0);
        x.answers(0, 1, 0, 0, 0);
        DUE.is("rounds of a show alone", x.count(5), 0);
        x.answers(1, 0, 0, 0, 0);
        DUE.is("rounds of a refusal", x.count(5), 1);
        x.answers(2, 0, 1, 1, 1);
        DUE.is("rounds of two refusals", x.count(5), 1);
        x.holds(0, 5);
        DUE.is("rounds of a card held", x.count(5), 2);
        DUE.is("rounds after begin", x.begin(2) * 0 + x.count(5), 0);
    }

    /** What an earlier fact gave with a later one is in its round as if all had been told at once. */
    private static void madeAnew() {
        SheetMarks x = new SheetMarks();
        x.holds(0, 0);
        no("rule 2 at first", x, 1, 0, 2, 2);
        x.answers(1, 0, 0, 3, 3);
        no("rule 1 then", x, 1, 0, 1, 1);
        x.takeBack(1);
        no("rule 2 again", x, 1, 0, 2, 2);
        x.answers(1, 0, 0, 3, 3);
        x.undo();
        no("rule 2 after undo", x, 1, 0, 2, 2);
        x.takeBack(0);
        DUE.is("no mark of no fact", marks(x), 0);
    }

    private static void ruleTwo() {
        for (int players = 2; players <= 5; players++) {
            SheetMarks x = sheetOf(players);
            x.holds(players - 1, 11);
            for (int owner = 0; owner < players - 1; owner++) {
                no("rule 2", x, owner, 11, 2, 2);
            }
            no("rule 2", x, ENVELOPE, 11, 2, 2);
            yes("rule 2 not of the owner itself", x, players - 1, 11, 1, 1);
            DUE.is("rule 2 of no other card", marks(x), players + 1);
        }
    }

    /** "No" for all but two gives nothing, for all but one "yes", here for the envelope. */
    private static void ruleThree(int players) {
        SheetMarks x = sheetOf(players);
        for (int player = 0; player < players; player++) {
            DUE.is("rule 3: not with " + player + " of " + players, x.mark(ENVELOPE, 5, 0), 0);
            x.answers(player, 0, 5, player, player);
        }
        yes("rule 3: the envelope's", x, ENVELOPE, 5, 2, 3);
        x.takeBack(0);
        DUE.is("rule 3: not without player 0", x.mark(ENVELOPE, 5, 0), 0);
    }

    /** Rule 4: one card less than the player has gives nothing, as many fill the hand, one more breaks the sheet. */
    private static void handFills(int players, int player) {
        String name = "hand of player " + player + " of " + players;
        SheetMarks x = sheetOf(players);
        int size = x.ofOwner(player, 0);
        int held = 0;
        for (int i = 0; i <= size; i++) {
            int card = i % 3 * 6 + i / 3;
            x.holds(player, card);
            held |= 1 << card;
            DUE.is(name + ": yes with " + (i + 1), x.ofOwner(player, 1), held);
            DUE.is(name + ": no with " + (i + 1), x.ofOwner(player, 2), i + 1 < size ? 0 : ALL - held);
            DUE.is(name + ": broken with " + (i + 1), x.count(6), i + 1 > size ? 1 : 0);
            if (i + 1 >= size) {
                no(name, x, player, 17, 2, 4);
            }
        }
    }

    /** Rule 5: one open card more than the player has gives nothing, as many are the hand, one less breaks the sheet. */
    private static void handRunsShort(int players, int player) {
        String name = "open cards of player " + player + " of " + players;
        SheetMarks x = sheetOf(players);
        int size = x.ofOwner(player, 0);
        x.answers(player, 0, 0, 0, 0);
        int open = ALL - (1 | 1 << 6 | 1 << 12);
        for (int i = 1; Integer.bitCount(open) >= size; i++) {
            int many = Integer.bitCount(open);
            DUE.is(name + ": yes with " + many, x.ofOwner(player, 1), many > size ? 0 : open);
            DUE.is(name + ": no with " + many, x.ofOwner(player, 2), ALL - open);
            DUE.is(name + ": broken with " + many, x.count(6), 0);
            int kind = i % 3;
            int of = 1 + (i - 1) / 3;
            open &= ~(1 << kind * 6 + of);
            int a = kind == 0 ? of : 0;
            int b = kind == 1 ? of : 0;
            int c = kind == 2 ? of : 0;
            int gain = x.gain(player, 0, a, b, c);
            int before = marks(x);
            x.answers(player, 0, a, b, c);
            DUE.is(name + ": gain", gain, x.count(6) == 1 ? SheetMarks.NONE : marks(x) - before);
        }
        DUE.is(name + ": one less: broken", x.count(6), 1);
        DUE.is(name + ": one less: yes", x.ofOwner(player, 1), open);
        DUE.is(name + ": one less: no", x.ofOwner(player, 2), ALL - open);
        yes(name + ": one less", x, player, 17, 2, 5);
    }

    /** Both players refuse the card; then the envelope has it, and no other one of the kind. */
    private static SheetMarks envelopeWith(int kind, int of) {
        SheetMarks x = sheetOf(2);
        addToEnvelope(x, kind, of, 0);
        return x;
    }

    private static void addToEnvelope(SheetMarks x, int kind, int of, int first) {
        for (int player = 0; player < 2; player++) {
            int other = first + player;
            x.answers(player, 0, kind == 0 ? of : other, kind == 1 ? of : other, kind == 2 ? of : other);
        }
    }

    private static void envelopeHasOne(int kind) {
        SheetMarks x = envelopeWith(kind, 3);
        int kinds = 63 << 6 * kind;
        yes("envelope of kind " + kind, x, ENVELOPE, 6 * kind + 3, 2, 3);
        no("envelope of kind " + kind, x, ENVELOPE, 6 * kind + 2, 3, 4);
        no("envelope of kind " + kind, x, ENVELOPE, 6 * kind + 5, 3, 4);
        DUE.is("rule 4 of no other kind than " + kind, x.ofOwner(ENVELOPE, 2), kinds - (1 << 6 * kind + 3));
        DUE.is("envelope(kind, 0)", x.envelope(kind, 0), 6 * kind + 3);
        DUE.is("envelope(kind, 1)", x.envelope(kind, 1), 1 << 6 * kind + 3);
        DUE.is("one of a kind: kinds with a yes", x.count(7), 1);
        DUE.is("one of a kind: not broken", x.count(6), 0);
    }

    private static void envelopeHasTwo(int kind) {
        SheetMarks x = envelopeWith(kind, 3);
        addToEnvelope(x, kind, 4, 2);
        int both = 24 << 6 * kind;
        DUE.is("two of kind " + kind + ": broken", x.count(6), 1);
        DUE.is("two of a kind: yes", x.ofOwner(ENVELOPE, 1), both);
        DUE.is("two of a kind: no", x.ofOwner(ENVELOPE, 2), (63 << 6 * kind) - both);
        no("two of a kind", x, ENVELOPE, 6 * kind, 3, 4);
        DUE.is("two of a kind: the lowest", x.envelope(kind, 0), 6 * kind + 3);
        DUE.is("two of a kind: kinds with a yes", x.count(7), 1);
    }

    private static void envelopeRunsShort(int kind) {
        SheetMarks x = sheetOf(5);
        for (int i = 0; i < 6; i++) {
            DUE.is("open of kind " + kind + ": not broken", x.count(6), 0);
            DUE.is("open of a kind", x.envelope(kind, 1), (63 << 6 * kind) & ALL & -(1 << 6 * kind + i));
            DUE.is("open of a kind: yes", x.envelope(kind, 0), i < 5 ? SheetMarks.NONE : 6 * kind + 5);
            DUE.is("open of a kind: kinds with a yes", x.count(7), i < 5 ? 0 : 1);
            if (i == 5) {
                yes("open of a kind", x, ENVELOPE, 6 * kind + 5, 3, 5);
            }
            x.holds(i % 5, 6 * kind + i);
        }
        DUE.is("none open of kind " + kind + ": broken", x.count(6), 1);
        DUE.is("none open of a kind: open", x.envelope(kind, 1), 0);
        DUE.is("none open of a kind: yes", x.envelope(kind, 0), SheetMarks.NONE);
    }

    /** Rule 6: with one "no" nothing, with two "yes" of the third one, with three the sheet is broken. */
    private static void showNeedsTwo(int last) {
        SheetMarks x = new SheetMarks();
        x.answers(2, 1, 1, 1, 1);
        int told = 0;
        for (int kind = 0; kind < 3; kind++) {
            if (kind != last) {
                DUE.is("show with " + told + " no", x.mark(2, 6 * last + 1, 0), 0);
                refuseOne(x, 2, kind);
                told++;
            }
        }
        yes("show with two no", x, 2, 6 * last + 1, 2, 6);
        no("show with two no: the others", x, 0, 6 * last + 1, 3, 2);
        DUE.is("show with two no: not broken", x.count(6), 0);
        DUE.is("show with two no: the third no", x.gain(2, 0, last == 0 ? 1 : 0, last == 1 ? 1 : 0, last == 2 ? 1 : 0),
                SheetMarks.NONE);
        refuseOne(x, 2, last);
        DUE.is("show with three no: broken", x.count(6), 1);
        DUE.is("show with three no: no yes", x.mark(2, 6 * last + 1, 0), 2);
    }

    private static void refuseOne(SheetMarks x, int player, int kind) {
        x.answers(player, 0, kind == 0 ? 1 : 0, kind == 1 ? 1 : 0, kind == 2 ? 1 : 0);
    }

    /** Rule 7: with one "yes" nothing, with two "no" of the third one, with three the sheet is broken. */
    private static void wrongNeedsTwo(int last) {
        SheetMarks x = sheetOf(2);
        x.wrong(1, 1, 1);
        int told = 0;
        for (int kind = 0; kind < 3; kind++) {
            if (kind != last) {
                DUE.is("wrong with " + told + " yes", x.mark(ENVELOPE, 6 * last + 1, 0), 0);
                addToEnvelope(x, kind, 1, 2 + 2 * told);
                told++;
            }
        }
        no("wrong with two yes", x, ENVELOPE, 6 * last + 1, 3, 7);
        DUE.is("wrong with two yes: that one alone", x.envelope(last, 1), (61 << 6 * last));
        DUE.is("wrong with two yes: not broken", x.count(6), 0);
        SheetMarks y = sheetOf(2);
        y.answers(0, 0, 1, 1, 1);
        y.answers(1, 0, 1, 1, 1);
        y.wrong(last == 0 ? 2 : 1, last == 1 ? 2 : 1, last == 2 ? 2 : 1);
        DUE.is("wrong of another third one: not broken", y.count(6), 0);
        y.wrong(1, 1, 1);
        DUE.is("wrong with three yes: broken", y.count(6), 1);
        DUE.is("wrong with three yes: no no", y.mark(ENVELOPE, 6 * last + 1, 0), 1);
    }

    /**
     * Card 0 comes to be "no" in one round for the last player, whose hand is full, and for the envelope, which has
     * card 1; the others refuse it. So rule 3 gives it to nobody, and nothing else is broken.
     */
    private static void cardOfNobody(int players) {
        SheetMarks x = sheetOf(players);
        int last = players - 1;
        for (int player = 0; player < last; player++) {
            x.answers(player, 0, 0, player, player);
            x.answers(player, 0, 1, player, player);
        }
        x.answers(last, 0, 1, 5, 5);
        int[] held = {6, 12, 10, 2, 3, 14};
        for (int i = 0; i < x.ofOwner(last, 0) - 1; i++) {
            x.holds(last, held[i]);
        }
        DUE.is("a card that one may have: not broken", x.count(6), 0);
        x.answers(last, 1, 1, 5, 4);
        for (int player = 0; player < last; player++) {
            no("nobody's card", x, player, 0, 1, 1);
        }
        no("nobody's card", x, last, 0, 3, 4);
        no("nobody's card", x, ENVELOPE, 0, 3, 4);
        DUE.is("nobody's card of " + players + ": broken", x.count(6), 1);
        DUE.is("nobody's card: nothing else is broken", handsThatCannotBe(x), 0);
        x.takeBack(0);
        DUE.is("a card that player 0 may have: not broken", x.count(6), 0);
    }

    private static int handsThatCannotBe(SheetMarks x) {
        int found = 0;
        for (int owner = 0; owner < x.count(0); owner++) {
            int size = x.ofOwner(owner, 0);
            int open = ALL & ~x.ofOwner(owner, 2);
            found += (x.ofOwner(owner, 1) & ~open) != 0 ? 1 : 0;
            found += Integer.bitCount(x.ofOwner(owner, 1)) > size || Integer.bitCount(open) < size ? 1 : 0;
        }
        for (int kind = 0; kind < 3; kind++) {
            int open = x.envelope(kind, 1);
            int yes = x.ofOwner(ENVELOPE, 1) & 63 << 6 * kind;
            found += (yes & ~open) != 0 || Integer.bitCount(yes) > 1 || open == 0 ? 1 : 0;
        }
        return found;
    }

    private static void twoBeforeFour() {
        SheetMarks x = sheetOf(5);
        x.holds(4, 0);
        x.holds(4, 1);
        x.holds(4, 2);
        x.holds(3, 17);
        no("rules 2 and 4", x, 4, 17, 2, 2);
        no("rule 4 alone", x, 4, 16, 2, 4);
    }

    /** Player 0 comes to have card 17 in round 2, when cards 0 and 6 come to be the envelope's. */
    private static void twoBeforeSeven() {
        SheetMarks x = sheetOf(2);
        x.answers(0, 0, 0, 0, 1);
        x.answers(1, 0, 0, 0, 2);
        x.wrong(0, 0, 5);
        no("rule 7 alone", x, ENVELOPE, 17, 3, 7);
        x.answers(0, 1, 0, 0, 5);
        yes("rule 6", x, 0, 17, 2, 6);
        no("rules 2 and 7", x, ENVELOPE, 17, 3, 2);
        DUE.is("rules 2 and 7: not broken", x.count(6), 0);
    }

    private static void fourBeforeSeven() {
        SheetMarks x = sheetOf(2);
        x.answers(0, 0, 0, 0, 0);
        x.answers(1, 0, 0, 0, 0);
        x.wrong(0, 0, 3);
        no("rules 4 and 7", x, ENVELOPE, 15, 3, 4);
        x.wrong(0, 3, 0);
        no("rules 4 and 7", x, ENVELOPE, 9, 3, 4);
    }

    /** In round 2 the envelope loses the fifth card of kind 0, and player 4, whose hand is full, the last one. */
    private static void threeBeforeFive() {
        SheetMarks x = sheetOf(5);
        x.holds(4, 0);
        x.holds(4, 1);
        x.holds(4, 2);
        x.holds(0, 3);
        x.holds(1, 4);
        yes("rule 5 alone", x, ENVELOPE, 5, 3, 5);
        for (int player = 0; player < 4; player++) {
            x.answers(player, 0, 5, 0, 0);
        }
        yes("rules 3 and 5", x, ENVELOPE, 5, 3, 3);
        DUE.is("rules 3 and 5: not broken", x.count(6), 0);
    }

    /** In round 3 the envelope loses card 17, since it has 12, and player 0 loses card 7, which player 1 has. */
    private static void threeBeforeSix() {
        SheetMarks x = sheetOf(2);
        x.answers(0, 0, 0, 0, 0);
        x.answers(1, 0, 1, 2, 0);
        x.answers(1, 1, 1, 1, 0);
        x.answers(0, 1, 0, 1, 5);
        yes("rule 6 alone", x, 0, 17, 4, 6);
        x.answers(1, 0, 1, 2, 5);
        yes("rules 3 and 6", x, 0, 17, 4, 3);
        DUE.is("rules 3 and 6: not broken", x.count(6), 0);
    }

    private static void fiveBeforeSix() {
        SheetMarks x = sheetOf(5);
        x.answers(0, 1, 0, 0, 5);
        for (int i = 0; i < 4; i++) {
            x.answers(0, 0, i, i, i);
        }
        yes("rule 6 alone", x, 0, 17, 2, 6);
        x.answers(0, 0, 4, 4, 4);
        yes("rules 5 and 6", x, 0, 17, 2, 5);
        yes("rule 5 alone", x, 0, 5, 2, 5);
    }

    /** A lower rule that comes a round later gives nothing more. */
    private static void earlierRoundBeforeLowerRule() {
        SheetMarks x = sheetOf(2);
        x.answers(0, 0, 0, 0, 0);
        x.answers(0, 1, 0, 0, 1);
        yes("rule 6 in round 2", x, 0, 13, 2, 6);
        x.answers(1, 0, 1, 1, 1);
        x.answers(1, 0, 2, 2, 0);
        yes("envelope's by rule 3 in round 2", x, ENVELOPE, 12, 2, 3);
        no("envelope's 13 by rule 2 in round 3", x, ENVELOPE, 13, 3, 2);
        yes("rule 6 stays, though rule 3 comes in round 4", x, 0, 13, 2, 6);
        SheetMarks y = sheetOf(5);
        y.holds(0, 0);
        y.answers(1, 0, 0, 0, 0);
        no("rule 1 stays, though rule 2 comes in round 2", y, 1, 0, 1, 1);
    }
}
