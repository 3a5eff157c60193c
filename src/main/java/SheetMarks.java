import java.util.Arrays;

/** The notes sheet of a game of deduction; ../shared/DOC.md says what each call answers. */
public final class SheetMarks {
    public static final int NO_SUCH = -1, BAD_VALUE = -2, BAD_TEXT = -3, TOO_MANY = -4, NOT_POSSIBLE = -5, NONE = -6;
    public static final int HOLDS = 0, REFUSES = 1, SHOWS = 2, WRONG = 3;

    private static final int KINDS = 3;
    private static final int CARDS_OF_KIND = 6;
    private static final int CARDS = KINDS * CARDS_OF_KIND;
    private static final int DEALT = CARDS - KINDS;
    private static final int ALL_CARDS = (1 << CARDS) - 1;
    private static final int ALL_OF_FIRST_KIND = (1 << CARDS_OF_KIND) - 1;
    private static final int FEWEST_PLAYERS = 2;
    private static final int MOST_PLAYERS = 5;
    private static final int ENVELOPE = 5;
    private static final int OWNERS = 6;
    // The envelope is three hands of one card, one of each kind, so that one loop serves the players and it.
    private static final int HANDS = ENVELOPE + KINDS;
    private static final int MOST_MARKS = 2 * OWNERS * CARDS;
    private static final int MOST_FACTS = 40;
    private static final int MOST_UNDONE = 6;
    private static final int SLOTS = 2;
    private static final int MOST_CHARACTERS = 80;
    private static final int OK = 0;

    private final Facts facts = new Facts();
    private final Marks marks = new Marks();
    // Made once, since a best question looks at hundreds of sheets.
    private final Marks supposed = new Marks();
    private final History history = new History();
    // A slot in which nothing was saved is null.
    private final Facts[] slots = new Facts[SLOTS];
    private final Pad pad = new Pad();

    public SheetMarks() {
    }

    // ---- changes

    public int begin(int players) {
        if (players < FEWEST_PLAYERS || players > MOST_PLAYERS) {
            return BAD_VALUE;
        }
        int before = facts.told;
        history.record(facts);
        facts.beginFor(players);
        marks.makeFrom(facts);
        return before;
    }

    public int holds(int player, int card) {
        if (!facts.hasPlayer(player) || !isCard(card)) {
            return NO_SUCH;
        }
        return tell(HOLDS, player, 1 << card);
    }

    public int answers(int player, int shows, int a, int b, int c) {
        int error = errorOfAnswer(player, shows, a, b, c);
        return error != OK ? error : tell(kindOfAnswer(shows), player, three(a, b, c));
    }

    public int wrong(int a, int b, int c) {
        return areThree(a, b, c) ? tell(WRONG, ENVELOPE, three(a, b, c)) : NO_SUCH;
    }

    public int takeBack(int fact) {
        if (!facts.has(fact)) {
            return NO_SUCH;
        }
        history.record(facts);
        facts.remove(fact);
        marks.makeFrom(facts);
        return facts.told;
    }

    private int tell(int kind, int owner, int cards) {
        if (facts.told >= MOST_FACTS) {
            return TOO_MANY;
        }
        history.record(facts);
        facts.add(kind, owner, cards);
        marks.makeFrom(facts);
        return marks.total();
    }

    // ---- what there is

    public int mark(int owner, int card, int what) {
        if (!facts.hasOwner(owner) || !isCard(card)) {
            return NO_SUCH;
        }
        switch (what) {
            case 0: return (marks.yes.has(owner, card) ? 1 : 0) + (marks.no.has(owner, card) ? 2 : 0);
            case 1: return marks.yes.roundOf(owner, card);
            case 2: return marks.yes.ruleOf(owner, card);
            case 3: return marks.no.roundOf(owner, card);
            case 4: return marks.no.ruleOf(owner, card);
            default: return BAD_VALUE;
        }
    }

    public int ofOwner(int owner, int what) {
        if (!facts.hasOwner(owner)) {
            return NO_SUCH;
        }
        switch (what) {
            case 0: return owner == ENVELOPE ? KINDS : facts.sizeOfHand(owner);
            case 1: return marks.yes.of(owner);
            case 2: return marks.no.of(owner);
            case 3: return marks.without(owner);
            default: return BAD_VALUE;
        }
    }

    public int ofFact(int fact, int what) {
        if (!facts.has(fact)) {
            return NO_SUCH;
        }
        int kind = facts.kinds[fact];
        int cards = facts.cards[fact];
        switch (what) {
            case 0: return kind;
            case 1: return kind == WRONG ? NONE : facts.owners[fact];
            case 2: return lowestOf(cards);
            case 3: return kind == HOLDS ? NONE : lowestOf(cards & cardsOfKind(1));
            case 4: return kind == HOLDS ? NONE : lowestOf(cards & cardsOfKind(2));
            default: return BAD_VALUE;
        }
    }

    public int count(int what) {
        switch (what) {
            case 0: return facts.players;
            case 1: return facts.told;
            case 2: return marks.yes.total();
            case 3: return marks.no.total();
            case 4: return withoutMark();
            case 5: return marks.rounds;
            case 6: return marks.areBroken(facts) ? 1 : 0;
            case 7: return kindsFound();
            case 8: return pad.length;
            case 9: return history.length;
            default: return BAD_VALUE;
        }
    }

    public int envelope(int kind, int what) {
        if (kind < 0 || kind >= KINDS) {
            return NO_SUCH;
        }
        switch (what) {
            case 0: return lowestOf(marks.yes.of(ENVELOPE) & cardsOfKind(kind));
            case 1: return cardsOfKind(kind) & ~marks.no.of(ENVELOPE);
            default: return BAD_VALUE;
        }
    }

    private int withoutMark() {
        int sum = 0;
        for (int owner = 0; owner < OWNERS; owner++) {
            if (facts.hasOwner(owner)) {
                sum += Integer.bitCount(marks.without(owner));
            }
        }
        return sum;
    }

    private int kindsFound() {
        int found = 0;
        for (int kind = 0; kind < KINDS; kind++) {
            if ((marks.yes.of(ENVELOPE) & cardsOfKind(kind)) != 0) {
                found++;
            }
        }
        return found;
    }

    // ---- what if; nothing changes

    public int gain(int player, int shows, int a, int b, int c) {
        int error = errorOfAnswer(player, shows, a, b, c);
        return error != OK ? error : gainOf(kindOfAnswer(shows), player, three(a, b, c));
    }

    public int must(int owner, int card) {
        if (!facts.hasOwner(owner) || !isCard(card)) {
            return NO_SUCH;
        }
        return (breaksWithNo(owner, card) ? 1 : 0) + (breaksWithYes(owner, card) ? 2 : 0);
    }

    public int deeper() {
        int found = 0;
        for (int owner = 0; owner < OWNERS; owner++) {
            int open = facts.hasOwner(owner) ? marks.without(owner) : 0;
            for (int card = 0; card < CARDS; card++) {
                if (isIn(open, card) && (breaksWithNo(owner, card) || breaksWithYes(owner, card))) {
                    found++;
                }
            }
        }
        return found;
    }

    public int bestQuestion(int player, int what) {
        if (!facts.hasPlayer(player)) {
            return NO_SUCH;
        }
        if (what < 0 || what > KINDS) {
            return BAD_VALUE;
        }
        int most = -1;
        int best = 0;
        for (int a = 0; a < CARDS_OF_KIND; a++) {
            for (int b = 0; b < CARDS_OF_KIND; b++) {
                for (int c = 0; c < CARDS_OF_KIND; c++) {
                    int cards = three(a, b, c);
                    int sure = lesser(gainOf(REFUSES, player, cards), gainOf(SHOWS, player, cards));
                    if (sure > most) {
                        most = sure;
                        best = cards;
                    }
                }
            }
        }
        return what == KINDS ? most : lowestOf(best & cardsOfKind(what)) - what * CARDS_OF_KIND;
    }

    private static int lesser(int refused, int shown) {
        if (refused == NONE) {
            return shown == NONE ? 0 : shown;
        }
        return shown == NONE ? refused : Math.min(refused, shown);
    }

    /*
     * It goes on from the marks that stand instead of making all of them anew. That leads to the same: wherever
     * a mark more keeps a rule from giving what it gave without it, the sheet is broken (a card too much or too
     * few in a hand, a card that nobody has, three that are all "no" or all "yes"), and broken it stays.
     */
    private int gainOf(int kind, int player, int cards) {
        supposed.copy(marks);
        facts.add(kind, player, cards);
        supposed.follow(facts);
        int gain = supposed.areBroken(facts) ? NONE : supposed.total() - marks.total();
        facts.remove(facts.told - 1);
        return gain;
    }

    // Both go on from the marks that stand, for the same reason as gainOf().
    private boolean breaksWithYes(int owner, int card) {
        supposed.copy(marks);
        supposed.yes.addAtOnce(owner, card);
        supposed.follow(facts);
        return supposed.areBroken(facts);
    }

    private boolean breaksWithNo(int owner, int card) {
        supposed.copy(marks);
        supposed.no.addAtOnce(owner, card);
        supposed.follow(facts);
        return supposed.areBroken(facts);
    }

    // ---- texts

    public int put(long characters) {
        int many = charactersIn(characters);
        if (many == 0) {
            return BAD_VALUE;
        }
        if (pad.length + many > MOST_CHARACTERS) {
            return TOO_MANY;
        }
        for (int i = many - 1; i >= 0; i--) {
            pad.append((int) (characters >>> (8 * i)) & 255);
        }
        return pad.length;
    }

    public int wipe() {
        int before = pad.length;
        pad.length = 0;
        return before;
    }

    public int fault() {
        return pad.firstFault();
    }

    public int carryOut() {
        if (pad.firstFault() != NONE) {
            return BAD_TEXT;
        }
        history.record(facts);
        int done = 0;
        for (int at = 0; at < pad.length; at++) {
            if (pad.beginsOrder(at)) {
                if (!obey(at)) {
                    break;
                }
                done++;
            }
        }
        pad.length = 0;
        marks.makeFrom(facts);
        return done;
    }

    // How many characters the number tells, 0 if it tells none or is not made as it should be.
    private static int charactersIn(long characters) {
        int many = 0;
        long rest = characters;
        while (many < 8 && rest != 0) {
            long code = rest & 255;
            if (code < 33 || code > 126) {
                return 0;
            }
            many++;
            rest >>>= 8;
        }
        return many;
    }

    // The pad has no fault when this is called. False is an error: the order changes nothing then.
    private boolean obey(int at) {
        switch (pad.at(at)) {
            case 'h': return noteIfPossible(HOLDS, pad.digit(at + 1), pad.card(at + 2));
            case 'r': return noteIfPossible(REFUSES, pad.digit(at + 1), pad.threeCards(at + 2));
            case 's': return noteIfPossible(SHOWS, pad.digit(at + 1), pad.threeCards(at + 2));
            case 'w': return noteIfPossible(WRONG, ENVELOPE, pad.threeCards(at + 1));
            default: return removeIfPossible(pad.number(at + 1));
        }
    }

    private boolean noteIfPossible(int kind, int owner, int cards) {
        if (!facts.hasOwner(owner) || facts.told >= MOST_FACTS) {
            return false;
        }
        facts.add(kind, owner, cards);
        return true;
    }

    private boolean removeIfPossible(int fact) {
        if (!facts.has(fact)) {
            return false;
        }
        facts.remove(fact);
        return true;
    }

    // ---- undo, saving

    public int undo() {
        if (history.length == 0) {
            return NOT_POSSIBLE;
        }
        history.takeLatest(facts);
        marks.makeFrom(facts);
        return history.length;
    }

    public int save(int slot) {
        if (slot < 0 || slot >= slots.length) {
            return BAD_VALUE;
        }
        if (slots[slot] == null) {
            slots[slot] = new Facts();
        }
        slots[slot].copy(facts);
        return facts.told;
    }

    public int restore(int slot) {
        if (slot < 0 || slot >= slots.length) {
            return BAD_VALUE;
        }
        if (slots[slot] == null) {
            return NOT_POSSIBLE;
        }
        history.record(facts);
        facts.copy(slots[slot]);
        marks.makeFrom(facts);
        return facts.told;
    }

    // ---- cards and questions

    private int errorOfAnswer(int player, int shows, int a, int b, int c) {
        if (!facts.hasPlayer(player) || !areThree(a, b, c)) {
            return NO_SUCH;
        }
        return shows == 0 || shows == 1 ? OK : BAD_VALUE;
    }

    private static int kindOfAnswer(int shows) {
        return shows == 1 ? SHOWS : REFUSES;
    }

    private static boolean isCard(int card) {
        return card >= 0 && card < CARDS;
    }

    private static boolean isOfKind(int number) {
        return number >= 0 && number < CARDS_OF_KIND;
    }

    private static boolean areThree(int a, int b, int c) {
        return isOfKind(a) && isOfKind(b) && isOfKind(c);
    }

    private static int three(int a, int b, int c) {
        return 1 << a | 1 << (CARDS_OF_KIND + b) | 1 << (2 * CARDS_OF_KIND + c);
    }

    private static int cardsOfKind(int kind) {
        return ALL_OF_FIRST_KIND << kind * CARDS_OF_KIND;
    }

    private static boolean isIn(int cards, int card) {
        return (cards >> card & 1) != 0;
    }

    private static int lowestOf(int cards) {
        return cards == 0 ? NONE : Integer.bitCount((cards & -cards) - 1);
    }

    /** What a change changes: the players, and the facts in the order in which they came. */
    private static final class Facts {
        private int players = 3;
        private int told;
        // One more than may be told: the fact that is only supposed.
        private final int[] kinds = new int[MOST_FACTS + 1];
        // Whose cards a fact tells of: the player, or the envelope for WRONG.
        private final int[] owners = new int[MOST_FACTS + 1];
        private final int[] cards = new int[MOST_FACTS + 1];

        void beginFor(int newPlayers) {
            players = newPlayers;
            told = 0;
        }

        void copy(Facts other) {
            players = other.players;
            told = other.told;
            System.arraycopy(other.kinds, 0, kinds, 0, kinds.length);
            System.arraycopy(other.owners, 0, owners, 0, owners.length);
            System.arraycopy(other.cards, 0, cards, 0, cards.length);
        }

        void add(int kind, int owner, int set) {
            if (told < kinds.length) {
                kinds[told] = kind;
                owners[told] = owner;
                cards[told] = set;
                told++;
            }
        }

        void remove(int fact) {
            if (!has(fact)) {
                return;
            }
            told--;
            for (int i = fact; i < told; i++) {
                kinds[i] = kinds[i + 1];
                owners[i] = owners[i + 1];
                cards[i] = cards[i + 1];
            }
        }

        boolean has(int fact) {
            return fact >= 0 && fact < told;
        }

        boolean hasPlayer(int player) {
            return player >= 0 && player < players;
        }

        boolean hasOwner(int owner) {
            return owner == ENVELOPE || owner >= 0 && owner < players;
        }

        boolean hasHand(int hand) {
            return hand >= ENVELOPE || hand >= 0 && hand < players;
        }

        // Dealt in turn, a player gets the cards player, player + players and so on.
        int sizeOfHand(int hand) {
            return hand >= ENVELOPE ? 1 : (DEALT + players - 1 - hand) / Math.max(1, players);
        }

        static int ownerOfHand(int hand) {
            return Math.min(hand, ENVELOPE);
        }

        static int cardsForHand(int hand) {
            return hand < ENVELOPE ? ALL_CARDS : cardsOfKind(hand - ENVELOPE);
        }
    }

    /** All marks of one sort, the "yes" or the "no". */
    private static final class Ticks {
        private static final int RULE_BITS = 3;

        private final int[] sets = new int[OWNERS];
        // Kept apart until the round ends: a round looks only at the marks of its beginning.
        private final int[] coming = new int[OWNERS];
        private final int[] origins = new int[OWNERS * CARDS];
        private int round = 1;

        void clear() {
            Arrays.fill(sets, 0);
            round = 1;
        }

        // Without the origins, which nobody asks for of a sheet that is only supposed.
        void copy(Ticks other) {
            System.arraycopy(other.sets, 0, sets, 0, sets.length);
            round = 1;
        }

        // The rules come in their order, so the first that gives a mark is its lowest.
        void add(int owner, int cards, int rule) {
            if (owner < 0 || owner >= OWNERS) {
                return;
            }
            int fresh = cards & ~sets[owner] & ~coming[owner];
            if (fresh == 0) {
                return;
            }
            coming[owner] |= fresh;
            for (int card = 0; card < CARDS; card++) {
                if (isIn(fresh, card)) {
                    origins[owner * CARDS + card] = round << RULE_BITS | rule;
                }
            }
        }

        void addAtOnce(int owner, int card) {
            if (owner >= 0 && owner < OWNERS) {
                sets[owner] |= 1 << card;
            }
        }

        boolean make() {
            int made = 0;
            for (int owner = 0; owner < OWNERS; owner++) {
                made |= coming[owner];
                sets[owner] |= coming[owner];
                coming[owner] = 0;
            }
            round++;
            return made != 0;
        }

        int of(int owner) {
            return owner < 0 || owner >= OWNERS ? 0 : sets[owner];
        }

        boolean has(int owner, int card) {
            return isIn(of(owner), card);
        }

        int roundOf(int owner, int card) {
            return has(owner, card) ? origins[owner * CARDS + card] >> RULE_BITS : NONE;
        }

        int ruleOf(int owner, int card) {
            return has(owner, card) ? origins[owner * CARDS + card] & (1 << RULE_BITS) - 1 : NONE;
        }

        int total() {
            int sum = 0;
            for (int owner = 0; owner < OWNERS; owner++) {
                sum += Integer.bitCount(sets[owner]);
            }
            return sum;
        }
    }

    /** The marks of a sheet, and the rules by which they follow. */
    private static final class Marks {
        private final Ticks yes = new Ticks();
        private final Ticks no = new Ticks();
        private int rounds;

        void makeFrom(Facts facts) {
            yes.clear();
            no.clear();
            follow(facts);
        }

        void copy(Marks other) {
            yes.copy(other.yes);
            no.copy(other.no);
        }

        void follow(Facts facts) {
            rounds = 0;
            while (rounds < MOST_MARKS && makeRound(facts)) {
                rounds++;
            }
        }

        int total() {
            return yes.total() + no.total();
        }

        int without(int owner) {
            return ALL_CARDS & ~yes.of(owner) & ~no.of(owner);
        }

        private boolean makeRound(Facts facts) {
            // What was seen needs no marks, so the first round has all of it.
            if (rounds == 0) {
                followWhatWasSeen(facts);
            }
            followOtherOwners(facts);
            followLastOwner(facts);
            followHands(facts);
            followThrees(facts);
            boolean moreYes = yes.make();
            boolean moreNo = no.make();
            return moreYes || moreNo;
        }

        private void followWhatWasSeen(Facts facts) {
            for (int i = 0; i < facts.told; i++) {
                if (facts.kinds[i] == HOLDS) {
                    yes.add(facts.owners[i], facts.cards[i], 1);
                } else if (facts.kinds[i] == REFUSES) {
                    no.add(facts.owners[i], facts.cards[i], 1);
                }
            }
        }

        private void followOtherOwners(Facts facts) {
            int ofOne = 0;
            int ofTwo = 0;
            for (int owner = 0; owner < OWNERS; owner++) {
                ofTwo |= ofOne & yes.of(owner);
                ofOne |= yes.of(owner);
            }
            for (int owner = 0; owner < OWNERS; owner++) {
                if (facts.hasOwner(owner)) {
                    no.add(owner, ofOne & ~yes.of(owner) | ofTwo, 2);
                }
            }
        }

        private void followLastOwner(Facts facts) {
            int openToOne = 0;
            int openToTwo = 0;
            for (int owner = 0; owner < OWNERS; owner++) {
                if (facts.hasOwner(owner)) {
                    int open = ALL_CARDS & ~no.of(owner);
                    openToTwo |= openToOne & open;
                    openToOne |= open;
                }
            }
            for (int owner = 0; owner < OWNERS; owner++) {
                if (facts.hasOwner(owner)) {
                    yes.add(owner, openToOne & ~openToTwo & ~no.of(owner), 3);
                }
            }
        }

        private void followHands(Facts facts) {
            for (int hand = 0; hand < HANDS; hand++) {
                if (facts.hasHand(hand)) {
                    int owner = Facts.ownerOfHand(hand);
                    int cards = Facts.cardsForHand(hand);
                    int size = facts.sizeOfHand(hand);
                    int sure = cards & yes.of(owner);
                    int open = cards & ~no.of(owner);
                    if (Integer.bitCount(sure) >= size) {
                        no.add(owner, cards & ~sure, 4);
                    }
                    if (Integer.bitCount(open) <= size) {
                        yes.add(owner, open, 5);
                    }
                }
            }
        }

        private void followThrees(Facts facts) {
            for (int i = 0; i < facts.told; i++) {
                int left = leftOfThree(facts, i);
                if (Integer.bitCount(left) == 1) {
                    if (facts.kinds[i] == SHOWS) {
                        yes.add(facts.owners[i], left, 6);
                    } else if (facts.kinds[i] == WRONG) {
                        no.add(facts.owners[i], left, 7);
                    }
                }
            }
        }

        // The cards of which one at least keeps a fact SHOWS or WRONG from being broken.
        private int leftOfThree(Facts facts, int i) {
            Ticks against = facts.kinds[i] == WRONG ? yes : no;
            return facts.cards[i] & ~against.of(facts.owners[i]);
        }

        boolean areBroken(Facts facts) {
            return aCardIsBroken(facts) || aHandIsBroken(facts) || aThreeIsBroken(facts);
        }

        private boolean aCardIsBroken(Facts facts) {
            int nobodys = ALL_CARDS;
            for (int owner = 0; owner < OWNERS; owner++) {
                if (facts.hasOwner(owner)) {
                    nobodys &= no.of(owner);
                    if ((yes.of(owner) & no.of(owner)) != 0) {
                        return true;
                    }
                }
            }
            return nobodys != 0;
        }

        private boolean aHandIsBroken(Facts facts) {
            for (int hand = 0; hand < HANDS; hand++) {
                if (facts.hasHand(hand)) {
                    int owner = Facts.ownerOfHand(hand);
                    int cards = Facts.cardsForHand(hand);
                    int size = facts.sizeOfHand(hand);
                    if (Integer.bitCount(cards & yes.of(owner)) > size
                            || Integer.bitCount(cards & ~no.of(owner)) < size) {
                        return true;
                    }
                }
            }
            return false;
        }

        private boolean aThreeIsBroken(Facts facts) {
            for (int i = 0; i < facts.told; i++) {
                boolean ofThree = facts.kinds[i] == SHOWS || facts.kinds[i] == WRONG;
                if (ofThree && leftOfThree(facts, i) == 0) {
                    return true;
                }
            }
            return false;
        }
    }

    /** The states before the latest changes, the oldest one first. */
    private static final class History {
        private final Facts[] states = new Facts[MOST_UNDONE];
        private int length;

        History() {
            for (int i = 0; i < states.length; i++) {
                states[i] = new Facts();
            }
        }

        void record(Facts facts) {
            if (length >= MOST_UNDONE) {
                dropOldest();
            }
            states[length].copy(facts);
            length++;
        }

        void takeLatest(Facts facts) {
            if (length > 0) {
                length--;
                facts.copy(states[length]);
            }
        }

        // The oldest state's object goes to the end, so that recording makes no new one.
        private void dropOldest() {
            Facts oldest = states[0];
            for (int i = 0; i + 1 < states.length; i++) {
                states[i] = states[i + 1];
            }
            states[states.length - 1] = oldest;
            length--;
        }
    }

    /** The text of orders that is being written. */
    private static final class Pad {
        // What has to come next when the text is read from left to right.
        private static final int ORDER = 0, PLAYER_THEN_CARD = 1, PLAYER_THEN_THREE = 2, LETTER = 3;
        private static final int THREE_DIGITS = 4, TWO_DIGITS = 5, DIGIT = 6;
        private static final int NUMBER = 7, DIGIT_OR_END = 8, END = 9, FAULT = 10;

        private final byte[] text = new byte[MOST_CHARACTERS];
        private int length;

        void append(int character) {
            if (length < text.length) {
                text[length] = (byte) character;
                length++;
            }
        }

        int firstFault() {
            int next = ORDER;
            for (int i = 0; i < length; i++) {
                next = after(next, at(i));
                if (next == FAULT) {
                    return i;
                }
            }
            return next == END || next == DIGIT_OR_END ? NONE : length;
        }

        private static int after(int expected, int character) {
            switch (expected) {
                case ORDER: return afterFirst(character);
                case PLAYER_THEN_CARD: return isFrom('0', '4', character) ? LETTER : FAULT;
                case PLAYER_THEN_THREE: return isFrom('0', '4', character) ? THREE_DIGITS : FAULT;
                case LETTER: return isFrom('a', 'c', character) ? DIGIT : FAULT;
                case THREE_DIGITS: return isFrom('0', '5', character) ? TWO_DIGITS : FAULT;
                case TWO_DIGITS: return isFrom('0', '5', character) ? DIGIT : FAULT;
                case DIGIT: return isFrom('0', '5', character) ? END : FAULT;
                case NUMBER: return character == '0' ? END : isFrom('1', '9', character) ? DIGIT_OR_END : FAULT;
                case DIGIT_OR_END: return isFrom('0', '9', character) ? END : afterOrder(character);
                case END: return afterOrder(character);
                default: return FAULT;
            }
        }

        private static int afterFirst(int character) {
            switch (character) {
                case 'h': return PLAYER_THEN_CARD;
                case 'r': return PLAYER_THEN_THREE;
                case 's': return PLAYER_THEN_THREE;
                case 'w': return THREE_DIGITS;
                case '-': return NUMBER;
                default: return FAULT;
            }
        }

        private static int afterOrder(int character) {
            return character == ';' ? ORDER : FAULT;
        }

        private static boolean isFrom(int low, int high, int character) {
            return character >= low && character <= high;
        }

        // On both sides of the text it is a ";", as if the first and the last order had others beside them.
        int at(int index) {
            return index >= 0 && index < length && index < text.length ? text[index] : ';';
        }

        boolean beginsOrder(int index) {
            return at(index - 1) == ';';
        }

        int digit(int index) {
            return at(index) - '0';
        }

        int card(int index) {
            return 1 << ((at(index) - 'a') * CARDS_OF_KIND + digit(index + 1));
        }

        int threeCards(int index) {
            return three(digit(index), digit(index + 1), digit(index + 2));
        }

        int number(int index) {
            int first = digit(index);
            return at(index + 1) == ';' ? first : first * 10 + digit(index + 1);
        }
    }
}
