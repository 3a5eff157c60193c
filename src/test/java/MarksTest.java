/** The rules of the marks, and promises 7 to 11: what there is. */
public final class MarksTest {
    private static final Due DUE = new Due("MarksTest");

    public static void main(String[] args) {
        ruleOneAndTwo();
        ruleThree();
        ruleFour();
        ruleFive();
        ruleSix();
        ruleSeven();
        lowestRule();
        broken();
        brokenByNobody();
        firstFactBreaks();
        markErrors();
        ofOwner();
        ofFact();
        count();
        envelope();
        DUE.end();
    }

    /** What mark() tells of "yes", or of "no", from its round and its rule. */
    private static void due(String name, SheetMarks x, int owner, int card, int marks, int round, int rule) {
        int first = marks == 1 ? 1 : 3;
        DUE.is(name + ": mark(" + owner + ", " + card + ", 0)", x.mark(owner, card, 0), marks);
        DUE.is(name + ": its round", x.mark(owner, card, first), round);
        DUE.is(name + ": its rule", x.mark(owner, card, first + 1), rule);
        DUE.is(name + ": round of the other mark", x.mark(owner, card, 4 - first), SheetMarks.NONE);
        DUE.is(name + ": rule of the other mark", x.mark(owner, card, 5 - first), SheetMarks.NONE);
    }

    private static void ruleOneAndTwo() {
        SheetMarks x = new SheetMarks();
        x.holds(1, 8);
        x.answers(2, 0, 0, 1, 2);
        due("rule 1", x, 1, 8, 1, 1, 1);
        due("rule 1", x, 2, 0, 2, 1, 1);
        due("rule 1", x, 2, 7, 2, 1, 1);
        due("rule 1", x, 2, 14, 2, 1, 1);
        due("rule 2", x, 0, 8, 2, 2, 2);
        due("rule 2", x, 5, 8, 2, 2, 2);
        DUE.is("rounds", x.count(5), 2);
        DUE.is("no mark", x.mark(0, 0, 0), 0);
        for (int what = 1; what <= 4; what++) {
            DUE.is("no mark: what " + what, x.mark(0, 0, what), SheetMarks.NONE);
        }
    }

    private static void ruleThree() {
        SheetMarks x = new SheetMarks();
        x.begin(2);
        x.answers(0, 0, 3, 0, 0);
        x.answers(1, 0, 3, 1, 1);
        due("rule 3", x, 5, 3, 1, 2, 3);
        DUE.is("rule 3: not with two left", x.mark(5, 6, 0), 0);
        due("rule 4 of the envelope", x, 5, 4, 2, 3, 4);
        DUE.is("rule 4: not of another kind", x.mark(5, 8, 0), 0);
        due("rule 1 stays behind it", x, 0, 3, 2, 1, 1);
        SheetMarks y = new SheetMarks();
        y.begin(2);
        y.answers(0, 0, 0, 0, 0);
        y.answers(1, 0, 0, 5, 5);
        y.answers(1, 0, 1, 5, 5);
        due("rule 3 for a player", y, 0, 1, 1, 4, 3);
    }

    private static void ruleFour() {
        SheetMarks x = new SheetMarks();
        x.begin(4);
        x.holds(3, 0);
        x.holds(3, 1);
        DUE.is("rule 4: not with two of three", x.mark(3, 2, 0), 0);
        x.holds(3, 17);
        due("rule 4", x, 3, 2, 2, 2, 4);
        DUE.is("rule 4: all the others", x.ofOwner(3, 2), 262143 & ~(1 | 2 | 1 << 17));
        x.holds(0, 2);
        x.holds(0, 7);
        x.holds(0, 8);
        DUE.is("rule 4: not with three of four", x.mark(0, 5, 0), 0);
        x.holds(0, 12);
        DUE.is("rule 4: with four", x.mark(0, 5, 0), 2);
    }

    private static void ruleFive() {
        SheetMarks x = new SheetMarks();
        x.begin(5);
        for (int i = 0; i < 4; i++) {
            x.answers(0, 0, i, i, i);
        }
        DUE.is("rule 5: not with six open", x.mark(0, 4, 0), 0);
        x.answers(0, 0, 4, 4, 4);
        due("rule 5", x, 0, 5, 1, 2, 5);
        due("rule 5", x, 0, 11, 1, 2, 5);
        due("rule 5", x, 0, 17, 1, 2, 5);
        SheetMarks y = new SheetMarks();
        for (int card = 6; card < 10; card++) {
            y.holds(card % 3, card);
        }
        DUE.is("rule 5 of the envelope: not with two open", y.mark(5, 11, 0), 0);
        y.holds(0, 10);
        due("rule 5 of the envelope", y, 5, 11, 1, 3, 5);
        due("rule 2 behind it", y, 1, 11, 2, 4, 2);
    }

    private static void firstFactBreaks() {
        SheetMarks x = new SheetMarks();
        x.answers(0, 1, 1, 2, 3);
        x.answers(0, 0, 1, 2, 3);
        DUE.is("broken by the first fact", x.count(6), 1);
    }

    private static void ruleSix() {
        SheetMarks x = new SheetMarks();
        x.answers(1, 1, 0, 1, 2);
        x.answers(1, 0, 0, 5, 5);
        DUE.is("rule 6: not with one", x.mark(1, 14, 0), 0);
        x.answers(1, 0, 5, 1, 5);
        due("rule 6", x, 1, 14, 1, 2, 6);
        SheetMarks y = new SheetMarks();
        y.answers(0, 1, 0, 1, 2);
        y.answers(1, 0, 0, 1, 5);
        DUE.is("rule 6: not by another player", y.mark(0, 14, 0), 0);
    }

    private static void ruleSeven() {
        SheetMarks x = new SheetMarks();
        x.begin(2);
        x.wrong(1, 1, 1);
        x.answers(0, 0, 1, 2, 0);
        x.answers(1, 0, 1, 3, 0);
        DUE.is("rule 7: the envelope's first card", x.mark(5, 1, 0), 1);
        DUE.is("rule 7: the envelope's third card", x.mark(5, 12, 0), 1);
        DUE.is("rule 7: not of another three", x.mark(5, 7, 0), 0);
        x.wrong(1, 1, 0);
        due("rule 7", x, 5, 7, 2, 3, 7);
    }

    private static void lowestRule() {
        SheetMarks x = new SheetMarks();
        x.begin(5);
        x.holds(0, 0);
        x.holds(1, 1);
        x.holds(1, 2);
        x.holds(1, 3);
        due("rules 2 and 4 in one round", x, 1, 0, 2, 2, 2);
        due("rule 4 alone", x, 1, 4, 2, 2, 4);
        SheetMarks y = new SheetMarks();
        for (int player = 0; player < 3; player++) {
            y.answers(player, 0, 2, 2, 2);
        }
        y.wrong(2, 2, 2);
        due("rules 4 and later ones", y, 5, 0, 2, 3, 4);
        SheetMarks z = new SheetMarks();
        z.begin(2);
        z.holds(0, 0);
        z.holds(1, 0);
        DUE.is("yes of two: both marks", z.mark(0, 0, 0), 3);
        DUE.is("yes of two: rule of yes", z.mark(0, 0, 2), 1);
        DUE.is("yes of two: rule of no", z.mark(0, 0, 4), 2);
        DUE.is("yes of two: rounds", z.mark(0, 0, 1) * 10 + z.mark(0, 0, 3), 12);
        DUE.is("yes of two: the envelope", z.mark(5, 0, 0), 2);
    }

    private static void broken() {
        SheetMarks x = new SheetMarks();
        x.holds(0, 0);
        DUE.is("not broken", x.count(6), 0);
        x.answers(0, 0, 0, 0, 0);
        DUE.is("broken by both marks", x.count(6), 1);
        DUE.is("both marks", x.mark(0, 0, 0), 3);
        SheetMarks four = new SheetMarks();
        four.begin(5);
        four.holds(0, 0);
        four.holds(0, 1);
        four.holds(0, 6);
        DUE.is("not broken by three of three", four.count(6), 0);
        four.holds(0, 7);
        DUE.is("broken by four of three", four.count(6), 1);
        SheetMarks few = new SheetMarks();
        for (int i = 0; i < 4; i++) {
            few.answers(0, 0, i, i, i);
        }
        DUE.is("not broken by six open of five", few.count(6), 0);
        few.answers(0, 0, 4, 4, 4);
        DUE.is("broken by three open of five", few.count(6), 1);
        DUE.is("rule 5 with fewer", few.mark(0, 17, 2), 5);
        SheetMarks two = new SheetMarks();
        two.begin(2);
        two.answers(0, 0, 0, 0, 0);
        two.answers(1, 0, 0, 1, 1);
        DUE.is("not broken by one in the envelope", two.count(6), 0);
        two.answers(0, 0, 1, 2, 2);
        two.answers(1, 0, 1, 3, 3);
        DUE.is("broken by two in the envelope", two.count(6), 1);
        DUE.is("two in the envelope", two.ofOwner(5, 1), 3);
        DUE.is("one kind alone", two.count(7), 1);
        SheetMarks none = new SheetMarks();
        none.begin(5);
        for (int card = 0; card < 6; card++) {
            DUE.is("not broken by " + card + " of a kind held", none.count(6), 0);
            none.holds(card % 5, card);
        }
        DUE.is("broken by a kind that is held", none.count(6), 1);
        DUE.is("envelope's lowest yes card then", none.envelope(0, 0), SheetMarks.NONE);
        DUE.is("envelope's open cards then", none.envelope(0, 1), 0);
        SheetMarks shows = new SheetMarks();
        shows.answers(0, 0, 1, 2, 3);
        shows.answers(0, 1, 1, 2, 4);
        DUE.is("not broken by two of three", shows.count(6), 0);
        shows.answers(0, 1, 1, 2, 3);
        DUE.is("broken by a show of three that are no", shows.count(6), 1);
        SheetMarks wrong = new SheetMarks();
        wrong.begin(2);
        wrong.answers(0, 0, 1, 2, 3);
        wrong.answers(1, 0, 1, 2, 3);
        DUE.is("not broken by a solution", wrong.count(6), 0);
        DUE.is("solution", wrong.count(7), 3);
        wrong.wrong(1, 2, 4);
        DUE.is("not broken by another guess", wrong.count(6), 0);
        wrong.wrong(1, 2, 3);
        DUE.is("broken by a wrong guess", wrong.count(6), 1);
        wrong.takeBack(0);
        wrong.takeBack(0);
        DUE.is("whole with the guesses alone", wrong.count(6), 0);
        wrong.answers(0, 0, 1, 2, 3);
        wrong.answers(1, 0, 1, 2, 3);
        DUE.is("broken by a guess before the answers", wrong.count(6), 1);
        wrong.takeBack(1);
        DUE.is("whole again", wrong.count(6), 0);
    }

    /** Card 0 comes to be "no" for the last player and for the envelope in one round, so rule 3 gives nobody "yes". */
    private static void brokenByNobody() {
        SheetMarks x = new SheetMarks();
        x.begin(5);
        x.answers(0, 0, 0, 0, 0);
        x.answers(1, 0, 0, 1, 1);
        x.answers(2, 0, 0, 0, 2);
        x.answers(3, 0, 0, 1, 0);
        x.answers(0, 0, 1, 0, 0);
        x.answers(1, 0, 1, 1, 1);
        x.answers(2, 0, 1, 0, 2);
        x.answers(3, 0, 1, 1, 0);
        x.answers(4, 0, 1, 3, 3);
        x.holds(4, 8);
        x.holds(4, 14);
        DUE.is("whole before", x.count(6), 0);
        x.answers(4, 1, 1, 3, 5);
        due("nobody's card: last player", x, 4, 0, 2, 3, 4);
        due("nobody's card: envelope", x, 5, 0, 2, 3, 4);
        DUE.is("broken by nobody's card", x.count(6), 1);
        int both = 0;
        for (int owner = 0; owner < 6; owner++) {
            both |= x.ofOwner(owner, 1) & x.ofOwner(owner, 2);
        }
        DUE.is("cards with both marks", both, 0);
    }

    private static void markErrors() {
        SheetMarks x = new SheetMarks();
        int[][] noSuch = {{3, 0, 0}, {4, 0, 0}, {6, 0, 0}, {-1, 0, 0}, {0, 18, 0}, {0, -1, 0}, {3, 0, 9}, {0, 18, -1},
            {Integer.MAX_VALUE, 0, 0}, {0, Integer.MIN_VALUE, 0}};
        for (int[] b : noSuch) {
            DUE.is("mark of no such", x.mark(b[0], b[1], b[2]), SheetMarks.NO_SUCH);
        }
        DUE.is("mark(0, 0, 5)", x.mark(0, 0, 5), SheetMarks.BAD_VALUE);
        DUE.is("mark(5, 17, -1)", x.mark(5, 17, -1), SheetMarks.BAD_VALUE);
        x.begin(4);
        DUE.is("mark(3, 17, 0) of 4 players", x.mark(3, 17, 0), 0);
        DUE.is("mark(4, 17, 0) of 4 players", x.mark(4, 17, 0), SheetMarks.NO_SUCH);
        DUE.is("mark(5, 17, 0) of 4 players", x.mark(5, 17, 0), 0);
    }

    private static void ofOwner() {
        SheetMarks x = new SheetMarks();
        x.holds(0, 4);
        x.holds(0, 4);
        x.answers(1, 0, 0, 0, 0);
        DUE.is("ofOwner(0, 0)", x.ofOwner(0, 0), 5);
        DUE.is("ofOwner(0, 1)", x.ofOwner(0, 1), 1 << 4);
        DUE.is("ofOwner(0, 2)", x.ofOwner(0, 2), 0);
        DUE.is("ofOwner(0, 3)", x.ofOwner(0, 3), 262143 - (1 << 4));
        DUE.is("ofOwner(1, 2)", x.ofOwner(1, 2), 1 | 1 << 4 | 1 << 6 | 1 << 12);
        DUE.is("ofOwner(5, 0)", x.ofOwner(5, 0), 3);
        DUE.is("ofOwner(5, 2)", x.ofOwner(5, 2), 1 << 4);
        x.answers(0, 0, 4, 0, 0);
        DUE.is("both: yes", x.ofOwner(0, 1), 1 << 4);
        DUE.is("both: no", x.ofOwner(0, 2), 1 << 4 | 1 << 6 | 1 << 12);
        DUE.is("both: without", x.ofOwner(0, 3), 262143 - (1 << 4 | 1 << 6 | 1 << 12));
        DUE.is("ofOwner(0, 4)", x.ofOwner(0, 4), SheetMarks.BAD_VALUE);
        DUE.is("ofOwner(5, -1)", x.ofOwner(5, -1), SheetMarks.BAD_VALUE);
        DUE.is("ofOwner(3, 0)", x.ofOwner(3, 0), SheetMarks.NO_SUCH);
        DUE.is("ofOwner(-1, 7)", x.ofOwner(-1, 7), SheetMarks.NO_SUCH);
        DUE.is("ofOwner(6, 0)", x.ofOwner(6, 0), SheetMarks.NO_SUCH);
    }

    private static void ofFact() {
        SheetMarks x = new SheetMarks();
        x.holds(2, 17);
        x.answers(1, 0, 1, 2, 3);
        x.answers(0, 1, 5, 4, 0);
        x.wrong(0, 3, 5);
        int[][] facts = {{0, 2, 17, -6, -6}, {1, 1, 1, 8, 15}, {2, 0, 5, 10, 12}, {3, -6, 0, 9, 17}};
        for (int fact = 0; fact < 4; fact++) {
            for (int what = 0; what < 5; what++) {
                DUE.is("ofFact(" + fact + ", " + what + ")", x.ofFact(fact, what), facts[fact][what]);
            }
        }
        DUE.is("ofFact(4, 0)", x.ofFact(4, 0), SheetMarks.NO_SUCH);
        DUE.is("ofFact(-1, 9)", x.ofFact(-1, 9), SheetMarks.NO_SUCH);
        DUE.is("ofFact(0, 5)", x.ofFact(0, 5), SheetMarks.BAD_VALUE);
        DUE.is("ofFact(3, -1)", x.ofFact(3, -1), SheetMarks.BAD_VALUE);
    }

    private static void count() {
        SheetMarks x = new SheetMarks();
        x.begin(2);
        x.holds(0, 0);
        x.answers(0, 0, 1, 1, 1);
        x.answers(1, 0, 1, 2, 3);
        Due.put(x, "h0a");
        int[] counts = {2, 3, 2, 12, 40, 3, 0, 1, 3, 4};
        for (int what = 0; what < counts.length; what++) {
            DUE.is("count(" + what + ")", x.count(what), counts[what]);
        }
        DUE.is("count(10)", x.count(10), SheetMarks.BAD_VALUE);
        DUE.is("count(-1)", x.count(-1), SheetMarks.BAD_VALUE);
        DUE.is("count(MIN)", x.count(Integer.MIN_VALUE), SheetMarks.BAD_VALUE);
    }

    private static void envelope() {
        SheetMarks x = new SheetMarks();
        DUE.is("envelope(0, 0)", x.envelope(0, 0), SheetMarks.NONE);
        DUE.is("envelope(0, 1)", x.envelope(0, 1), 63);
        DUE.is("envelope(1, 1)", x.envelope(1, 1), 63 << 6);
        DUE.is("envelope(2, 1)", x.envelope(2, 1), 63 << 12);
        x.holds(0, 13);
        DUE.is("envelope(2, 1) then", x.envelope(2, 1), 61 << 12);
        for (int player = 0; player < 3; player++) {
            x.answers(player, 0, player, 3, player);
        }
        DUE.is("envelope(1, 0)", x.envelope(1, 0), 9);
        DUE.is("envelope(1, 1) with a yes", x.envelope(1, 1), 1 << 9);
        DUE.is("envelope(2, 0)", x.envelope(2, 0), SheetMarks.NONE);
        DUE.is("envelope(3, 0)", x.envelope(3, 0), SheetMarks.NO_SUCH);
        DUE.is("envelope(-1, 5)", x.envelope(-1, 5), SheetMarks.NO_SUCH);
        DUE.is("envelope(0, 2)", x.envelope(0, 2), SheetMarks.BAD_VALUE);
        DUE.is("envelope(2, -1)", x.envelope(2, -1), SheetMarks.BAD_VALUE);
    }
}
