import java.util.Random;

/** Runs of chosen calls, each answered by SheetMarks as by SlowSheet; the seeds are fixed. */
public final class RandomRunsTest {
    private static final int RUNS = 400;
    // An object is used for at most 512 calls; a step makes up to eight.
    private static final int CALLS = 500;
    private static final int DEAR_EACH = 5;

    private final Due due;
    private final Random random;
    private final String name;
    // One call of so many tells a fact that is not true of the deal, which breaks the sheet sooner or later.
    private final int liesEach;
    private SheetMarks x = new SheetMarks();
    private SlowSheet slow = new SlowSheet();
    private int[] ownerOf = new int[18];

    private RandomRunsTest(Due due, int seed) {
        this.due = due;
        random = new Random(seed);
        name = "seed " + seed + ": ";
        liesEach = new int[] {1000000, 40, 10, 2}[seed % 4];
        deal(3);
    }

    public static void main(String[] args) {
        Due due = new Due("RandomRunsTest");
        for (int seed = 0; seed < RUNS; seed++) {
            new RandomRunsTest(due, seed).run();
        }
        due.end();
    }

    private void deal(int players) {
        int[] order = new int[18];
        for (int i = 0; i < 18; i++) {
            order[i] = i;
        }
        for (int i = 17; i > 0; i--) {
            int j = random.nextInt(i + 1);
            int card = order[i];
            order[i] = order[j];
            order[j] = card;
        }
        boolean[] inEnvelope = new boolean[3];
        int next = 0;
        for (int card : order) {
            if (!inEnvelope[card / 6]) {
                inEnvelope[card / 6] = true;
                ownerOf[card] = 5;
            } else {
                ownerOf[card] = next++ % players;
            }
        }
    }

    private void run() {
        int before = due.asked();
        int early = random.nextInt(5) == 0 ? 39 : random.nextInt(12);
        for (int i = 0; due.asked() - before < CALLS; i++) {
            switch (i < early ? 0 : random.nextInt(10)) {
                case 0: case 1: case 2: tell(); break;
                case 3: change(); break;
                case 4: text(); break;
                case 5: whatIf(); break;
                default: look(); break;
            }
        }
    }

    /** A number from 0 to below the bound, seldom one beside them. */
    private int number(int bound) {
        int odd = random.nextInt(80);
        return odd == 0 ? -1 : odd == 1 ? bound : odd == 2 ? Integer.MAX_VALUE : odd == 3 ? Integer.MIN_VALUE
                : random.nextInt(bound);
    }

    private int player() {
        return number(slow.count(0));
    }

    private int owner() {
        int owner = number(slow.count(0) + 1);
        return owner == slow.count(0) ? 5 : owner;
    }

    private boolean lies() {
        return random.nextInt(liesEach) == 0;
    }

    private void tell() {
        int player = player();
        int a = number(6);
        int b = number(6);
        int c = number(6);
        switch (random.nextInt(5)) {
            case 0:
                int card = number(18);
                if (card >= 0 && card < 18 && ownerOf[card] < 5 && !lies()) {
                    player = ownerOf[card];
                }
                due.is(name + "holds(" + player + ", " + card + ")", x.holds(player, card), slow.holds(player, card));
                break;
            case 1:
                if (isTrueWrong(a, b, c) || lies()) {
                    due.is(name + "wrong", x.wrong(a, b, c), slow.wrong(a, b, c));
                }
                break;
            default:
                int shows = random.nextInt(60) == 0 ? number(3) : lies() ? random.nextInt(2) : truth(player, a, b, c);
                due.is(name + "answers(" + player + ", " + shows + ", " + a + ", " + b + ", " + c + ")",
                        x.answers(player, shows, a, b, c), slow.answers(player, shows, a, b, c));
                break;
        }
    }

    private static boolean isOf(int number) {
        return number >= 0 && number < 6;
    }

    private boolean isTrueWrong(int a, int b, int c) {
        return !isOf(a) || !isOf(b) || !isOf(c) || ownerOf[a] != 5 || ownerOf[6 + b] != 5 || ownerOf[12 + c] != 5;
    }

    private int truth(int player, int a, int b, int c) {
        return isOf(a) && ownerOf[a] == player || isOf(b) && ownerOf[6 + b] == player
                || isOf(c) && ownerOf[12 + c] == player ? 1 : 0;
    }

    private void change() {
        switch (random.nextInt(12)) {
            case 0:
                if (random.nextInt(4) == 0) {
                    int players = 1 + random.nextInt(6);
                    due.is(name + "begin", x.begin(players), slow.begin(players));
                    deal(slow.count(0));
                }
                break;
            case 1: case 2: case 3:
                int fact = number(slow.count(1) + 1);
                due.is(name + "takeBack", x.takeBack(fact), slow.takeBack(fact));
                break;
            case 4: case 5: case 6:
                due.is(name + "undo", x.undo(), slow.undo());
                break;
            case 7: case 8: case 9:
                int slot = number(2);
                due.is(name + "save", x.save(slot), slow.save(slot));
                break;
            default:
                slot = number(2);
                due.is(name + "restore", x.restore(slot), slow.restore(slot));
                break;
        }
    }

    private void text() {
        switch (random.nextInt(6)) {
            case 0:
                due.is(name + "wipe", x.wipe(), slow.wipe());
                break;
            case 1:
                due.is(name + "carryOut", x.carryOut(), slow.carryOut());
                break;
            case 2:
                long odd = random.nextLong() & (random.nextBoolean() ? 0x7f7f7f7f7f7f7f7fL : -1L);
                due.is(name + "put", x.put(odd), slow.put(odd));
                break;
            default:
                String order = order();
                long number = Due.packed(order);
                if (slow.count(8) > 0 && order.length() < 8 && random.nextInt(20) != 0) {
                    number = Due.packed(";" + order);
                }
                due.is(name + "put", x.put(number), slow.put(number));
                break;
        }
        due.is(name + "fault", x.fault(), slow.fault());
    }

    private String order() {
        String three = "" + random.nextInt(6) + random.nextInt(6) + random.nextInt(6);
        int player = random.nextInt(slow.count(0));
        switch (random.nextInt(12)) {
            case 0: return "h" + random.nextInt(5) + "abc".charAt(random.nextInt(3)) + random.nextInt(6);
            case 1: return "w" + three;
            case 2: return "-" + random.nextInt(12);
            case 3: return "-" + random.nextInt(100) + ";" + "-0";
            case 4: return "-0" + random.nextInt(10);
            case 5: return "hrsw-;0a".substring(random.nextInt(8));
            case 6: return "r" + random.nextInt(6) + three;
            default: return (truth(player, three.charAt(0) - '0', three.charAt(1) - '0', three.charAt(2) - '0') == 1
                    ? "s" : "r") + player + three;
        }
    }

    private void whatIf() {
        int player = player();
        int what = number(4);
        int a = number(6);
        int b = number(6);
        int c = number(6);
        int shows = random.nextInt(30) == 0 ? number(3) : random.nextInt(2);
        int owner = owner();
        int card = number(18);
        due.is(name + "gain", x.gain(player, shows, a, b, c), slow.gain(player, shows, a, b, c));
        due.is(name + "must", x.must(owner, card), slow.must(owner, card));
        if (random.nextInt(DEAR_EACH) == 0) {
            due.is(name + "deeper", x.deeper(), slow.deeper());
            due.is(name + "bestQuestion", x.bestQuestion(player, what), slow.bestQuestion(player, what));
        }
    }

    private void look() {
        int owner = owner();
        int card = number(18);
        int what = number(5);
        due.is(name + "mark", x.mark(owner, card, what), slow.mark(owner, card, what));
        due.is(name + "ofOwner", x.ofOwner(owner, what), slow.ofOwner(owner, what));
        int fact = number(slow.count(1) + 1);
        due.is(name + "ofFact", x.ofFact(fact, what), slow.ofFact(fact, what));
        int kind = number(3);
        due.is(name + "envelope", x.envelope(kind, what), slow.envelope(kind, what));
        int number = number(10);
        due.is(name + "count(" + number + ")", x.count(number), slow.count(number));
        due.is(name + "count(5)", x.count(5), slow.count(5));
        due.is(name + "count(6)", x.count(6), slow.count(6));
    }
}
