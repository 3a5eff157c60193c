/** Each number that a call takes: the last right ones on either side, and those just beside them. */
public final class BoundsTest {
    private static final Due DUE = new Due("BoundsTest");
    private static final int[] FAR = {Integer.MIN_VALUE, Integer.MIN_VALUE + 1, -256, 256, 65536, Integer.MAX_VALUE};
    private static final int NO_SUCH = SheetMarks.NO_SUCH, BAD_VALUE = SheetMarks.BAD_VALUE, NONE = SheetMarks.NONE;

    interface Call {
        int on(SheetMarks x, int number);
    }

    public static void main(String[] args) {
        begin();
        for (int players = 2; players <= 5; players++) {
            holds(players);
            answers(players);
            wrong(players);
            mark(players);
            ofOwner(players);
            gain(players);
            must(players);
            bestQuestion(players);
        }
        takeBack();
        ofFact();
        count();
        envelope();
        slots();
        DUE.end();
    }

    private static SheetMarks sheetOf(int players) {
        SheetMarks x = new SheetMarks();
        x.begin(players);
        return x;
    }

    /** From low to high the call answers what is due there, in their order; everything else is the error. */
    private static void bounds(String name, int players, Call call, int error, int low, int... due) {
        for (int i = 0; i < due.length; i++) {
            is(name, players, call, low + i, due[i]);
        }
        is(name, players, call, low - 1, error);
        is(name, players, call, low + due.length, error);
        for (int number : FAR) {
            is(name, players, call, number, error);
        }
    }

    private static void is(String name, int players, Call call, int number, int want) {
        DUE.is(name + " with " + number + " of " + players, call.on(sheetOf(players), number), want);
    }

    private static int[] same(int many, int each) {
        int[] all = new int[many];
        java.util.Arrays.fill(all, each);
        return all;
    }

    private static void begin() {
        bounds("begin", 3, (x, n) -> x.begin(n), BAD_VALUE, 2, 0, 0, 0, 0);
        bounds("begin", 3, (x, n) -> x.begin(n) * 10 + x.count(0), 10 * BAD_VALUE + 3, 2, 2, 3, 4, 5);
    }

    private static void holds(int p) {
        bounds("holds: player", p, (x, n) -> x.holds(n, 9), NO_SUCH, 0, same(p, p + 1));
        bounds("holds: card", p, (x, n) -> x.holds(p - 1, n), NO_SUCH, 0, same(18, p + 1));
        is("holds: the envelope", p, (x, n) -> x.holds(n, 0), 5, NO_SUCH);
        for (int card = 0; card < 18; card++) {
            SheetMarks x = sheetOf(p);
            x.holds(p - 1, card);
            DUE.is("holds: the card " + card, x.ofOwner(p - 1, 1), 1 << card);
            DUE.is("holds: the card's number " + card, x.ofFact(0, 2), card);
        }
    }

    private static void answers(int p) {
        bounds("answers: player", p, (x, n) -> x.answers(n, 0, 1, 2, 3), NO_SUCH, 0, same(p, 3));
        bounds("answers: shows", p, (x, n) -> x.answers(p - 1, n, 1, 2, 3), BAD_VALUE, 0, 3, 0);
        bounds("answers: a", p, (x, n) -> x.answers(0, 0, n, 2, 3), NO_SUCH, 0, same(6, 3));
        bounds("answers: b", p, (x, n) -> x.answers(0, 0, 1, n, 3), NO_SUCH, 0, same(6, 3));
        bounds("answers: c", p, (x, n) -> x.answers(0, 0, 1, 2, n), NO_SUCH, 0, same(6, 3));
        bounds("answers: a of a show", p, (x, n) -> x.answers(0, 1, n, 2, 3), NO_SUCH, 0, same(6, 0));
        bounds("answers: b of a show", p, (x, n) -> x.answers(0, 1, 1, n, 3), NO_SUCH, 0, same(6, 0));
        bounds("answers: c of a show", p, (x, n) -> x.answers(0, 1, 1, 2, n), NO_SUCH, 0, same(6, 0));
        is("answers: the envelope", p, (x, n) -> x.answers(n, 0, 1, 2, 3), 5, NO_SUCH);
        for (int i = 0; i < 6; i++) {
            SheetMarks x = sheetOf(p);
            x.answers(p - 1, 0, i, 5 - i, i);
            DUE.is("answers: the cards", x.ofOwner(p - 1, 2), 1 << i | 1 << 11 - i | 1 << 12 + i);
        }
    }

    private static void wrong(int p) {
        bounds("wrong: a", p, (x, n) -> x.wrong(n, 2, 3), NO_SUCH, 0, same(6, 0));
        bounds("wrong: b", p, (x, n) -> x.wrong(1, n, 3), NO_SUCH, 0, same(6, 0));
        bounds("wrong: c", p, (x, n) -> x.wrong(1, 2, n), NO_SUCH, 0, same(6, 0));
    }

    private static void mark(int p) {
        bounds("mark: card", p, (x, n) -> x.mark(5, n, 0), NO_SUCH, 0, same(18, 0));
        bounds("mark: what", p, (x, n) -> x.mark(5, 0, n), BAD_VALUE, 0, 0, NONE, NONE, NONE, NONE);
        owners("mark", p, (x, n) -> x.mark(n, 17, 0), 0);
    }

    /** The owners are the players and 5: between them there is none. */
    private static void owners(String name, int p, Call call, int due) {
        for (int owner = -1; owner <= 6; owner++) {
            is(name + ": owner", p, call, owner, owner >= 0 && owner < p || owner == 5 ? due : NO_SUCH);
        }
        for (int owner : FAR) {
            is(name + ": owner", p, call, owner, NO_SUCH);
        }
    }

    private static void ofOwner(int p) {
        int[] sizes = {15 / p + (15 % p > 0 ? 1 : 0), 15 / p};
        bounds("ofOwner: what", p, (x, n) -> x.ofOwner(0, n), BAD_VALUE, 0, sizes[0], 0, 0, 262143);
        bounds("ofOwner: what", p, (x, n) -> x.ofOwner(p - 1, n), BAD_VALUE, 0, sizes[1], 0, 0, 262143);
        bounds("ofOwner: what", p, (x, n) -> x.ofOwner(5, n), BAD_VALUE, 0, 3, 0, 0, 262143);
        owners("ofOwner", p, (x, n) -> x.ofOwner(n, 3), 262143);
    }

    private static void gain(int p) {
        bounds("gain: player", p, (x, n) -> x.gain(n, 0, 1, 2, 3), NO_SUCH, 0, same(p, 3));
        bounds("gain: shows", p, (x, n) -> x.gain(p - 1, n, 1, 2, 3), BAD_VALUE, 0, 3, 0);
        bounds("gain: a", p, (x, n) -> x.gain(0, 0, n, 2, 3), NO_SUCH, 0, same(6, 3));
        bounds("gain: b", p, (x, n) -> x.gain(0, 0, 1, n, 3), NO_SUCH, 0, same(6, 3));
        bounds("gain: c", p, (x, n) -> x.gain(0, 0, 1, 2, n), NO_SUCH, 0, same(6, 3));
        is("gain: the envelope", p, (x, n) -> x.gain(n, 0, 1, 2, 3), 5, NO_SUCH);
    }

    private static void must(int p) {
        bounds("must: card", p, (x, n) -> x.must(0, n), NO_SUCH, 0, same(18, 0));
        bounds("must: card of the envelope", p, (x, n) -> x.must(5, n), NO_SUCH, 0, same(18, 0));
        owners("must", p, (x, n) -> x.must(n, 0), 0);
    }

    private static void bestQuestion(int p) {
        bounds("bestQuestion: player", p, (x, n) -> x.bestQuestion(n, 3), NO_SUCH, 0, same(p, 0));
        bounds("bestQuestion: what", p, (x, n) -> x.bestQuestion(p - 1, n), BAD_VALUE, 0, 0, 0, 0, 0);
        is("bestQuestion: the envelope", p, (x, n) -> x.bestQuestion(n, 3), 5, NO_SUCH);
    }

    private static SheetMarks withFacts(SheetMarks x, int facts) {
        for (int i = 0; i < facts; i++) {
            x.wrong(i % 6, i / 6 % 6, 0);
        }
        return x;
    }

    private static void takeBack() {
        bounds("takeBack of none", 3, (x, n) -> x.takeBack(n), NO_SUCH, 0);
        bounds("takeBack of one", 3, (x, n) -> withFacts(x, 1).takeBack(n), NO_SUCH, 0, 0);
        bounds("takeBack of two", 3, (x, n) -> withFacts(x, 2).takeBack(n), NO_SUCH, 0, 1, 1);
        bounds("takeBack of 39", 3, (x, n) -> withFacts(x, 39).takeBack(n), NO_SUCH, 0, same(39, 38));
        bounds("takeBack of 40", 3, (x, n) -> withFacts(x, 40).takeBack(n), NO_SUCH, 0, same(40, 39));
    }

    private static void ofFact() {
        bounds("ofFact of none", 3, (x, n) -> x.ofFact(n, 0), NO_SUCH, 0);
        bounds("ofFact of one", 3, (x, n) -> withFacts(x, 1).ofFact(n, 0), NO_SUCH, 0, 3);
        int[] second = new int[40];
        for (int i = 0; i < 40; i++) {
            second[i] = 6 + i / 6 % 6;
        }
        bounds("ofFact of 40", 3, (x, n) -> withFacts(x, 40).ofFact(n, 3), NO_SUCH, 0, second);
        bounds("ofFact: what of WRONG", 3, (x, n) -> withFacts(x, 9).ofFact(8, n), BAD_VALUE, 0, 3, NONE, 2, 7, 12);
        bounds("ofFact: what of HOLDS", 3, (x, n) -> x.holds(2, 17) * 0 + x.ofFact(0, n), BAD_VALUE,
                0, 0, 2, 17, NONE, NONE);
        bounds("ofFact: what of REFUSES", 3, (x, n) -> x.answers(0, 0, 0, 5, 5) * 0 + x.ofFact(0, n), BAD_VALUE,
                0, 1, 0, 0, 11, 17);
        bounds("ofFact: what of SHOWS", 3, (x, n) -> x.answers(2, 1, 5, 0, 0) * 0 + x.ofFact(0, n), BAD_VALUE,
                0, 2, 2, 5, 6, 12);
    }

    private static void count() {
        bounds("count: what", 3, (x, n) -> x.count(n), BAD_VALUE, 0, 3, 0, 0, 0, 72, 0, 0, 0, 0, 1);
        bounds("count: what of a sheet with all", 2, (x, n) -> solved(x).count(n), BAD_VALUE,
                0, 2, 15, 18, 36, 0, 3, 0, 3, 4, 6);
    }

    /** Player 0 has all cards of kind 0 but card 5, and 6 to 8; player 1 the others but 11 and 17. */
    private static SheetMarks solved(SheetMarks x) {
        for (int card = 0; card < 17; card++) {
            if (card != 5 && card != 11) {
                x.holds(card < 9 ? 0 : 1, card);
            }
        }
        Due.put(x, "h0a0");
        return x;
    }

    private static void envelope() {
        bounds("envelope: kind, 0", 2, (x, n) -> x.envelope(n, 0), NO_SUCH, 0, NONE, NONE, NONE);
        bounds("envelope: kind, 1", 2, (x, n) -> x.envelope(n, 1), NO_SUCH, 0, 63, 4032, 258048);
        bounds("envelope: kind, 0, of a sheet with all", 2, (x, n) -> solved(x).envelope(n, 0), NO_SUCH, 0, 5, 11, 17);
        bounds("envelope: kind, 1, of a sheet with all", 2, (x, n) -> solved(x).envelope(n, 1), NO_SUCH,
                0, 1 << 5, 1 << 11, 1 << 17);
        bounds("envelope: what", 2, (x, n) -> x.envelope(0, n), BAD_VALUE, 0, NONE, 63);
        bounds("envelope: what", 2, (x, n) -> x.envelope(2, n), BAD_VALUE, 0, NONE, 258048);
    }

    private static void slots() {
        bounds("save", 3, (x, n) -> withFacts(x, 4).save(n), BAD_VALUE, 0, 4, 4);
        bounds("restore of nothing", 3, (x, n) -> x.restore(n), BAD_VALUE, 0,
                SheetMarks.NOT_POSSIBLE, SheetMarks.NOT_POSSIBLE);
        bounds("restore", 3, (x, n) -> x.save(0) + x.save(1) + x.holds(0, 0) * 0 + x.restore(n), BAD_VALUE, 0, 0, 0);
        bounds("restore of 0 alone", 3, (x, n) -> x.save(0) * 0 + x.restore(n), BAD_VALUE,
                0, 0, SheetMarks.NOT_POSSIBLE);
        bounds("restore of 1 alone", 3, (x, n) -> x.save(1) * 0 + x.restore(n), BAD_VALUE,
                0, SheetMarks.NOT_POSSIBLE, 0);
    }
}
