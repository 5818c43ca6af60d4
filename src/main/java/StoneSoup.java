/** Soup from a stone, as ../shared/DOC.md tells it. */
public final class StoneSoup {
    public static final int UNKNOWN = -1, BAD = -2, LATE = -3, FULL = -4, NONE = -9;

    private static final int THINGS = 6;
    private static final int MOST_PEOPLE = 6;
    private static final int POTS = 64;
    private static final int MOST_LETTERS = 56;
    private static final int MOST_ACTS = 16;
    private static final int MOST_SEEN = 6;
    private static final int SLOTS = 2;
    private static final int MOST_FIGURES = 8;
    private static final int MOST_STEPS = 60;
    private static final int MOST_TOLD_WORTH = 99;

    private final Text text;
    private final Town folk;
    private final Soup now;
    private final Soup dream;
    private final Acts acts;
    private final Slots slots;
    private final Ways fromNow;
    private final Ways fromEmpty;
    private final Turns turns;
    private final Laws guessed;
    private final Figures figures;
    private final Chances chances;
    private long seedNow;

    public StoneSoup() {
        text = new Text();
        folk = new Town();
        now = new Soup();
        dream = new Soup();
        acts = new Acts();
        slots = new Slots();
        fromNow = new Ways();
        fromEmpty = new Ways();
        turns = new Turns();
        guessed = new Laws();
        figures = new Figures();
        chances = new Chances();
        seedNow = 0L;
    }

    // ---- the town

    public int write(int letter) {
        if (letter < 0 || letter > 255) {
            return BAD;
        }
        if (text.isFull()) {
            return FULL;
        }
        text.append(letter);
        return text.size();
    }

    public int wipe() {
        int were = text.size();
        text.clear();
        return were;
    }

    public int fault() {
        return text.firstFault();
    }

    public int town() {
        if (text.firstFault() != NONE) {
            return LATE;
        }
        folk.settle(text);
        now.start();
        acts.clear();
        slots.clear();
        return folk.size();
    }

    public int about(int what) {
        switch (what) {
            case 0: return folk.size();
            case 1: return now.pot();
            case 2: return folk.thingsIn(now.pot());
            case 3: return folk.worthOf(now.pot());
            case 4: return now.doubt();
            case 5: return now.isLidOn() ? 1 : 0;
            case 6: return folk.willingAt(now.pot());
            case 7: return acts.size();
            case 8: return guessed.seen();
            case 9: return text.size();
            default: return BAD;
        }
    }

    public int person(int person, int what) {
        if (!folk.hasPerson(person)) {
            return UNKNOWN;
        }
        if (what < 0 || what >= Town.TOLD) {
            return BAD;
        }
        return folk.told(person, what);
    }

    // ---- acts

    public int ask(int person) {
        if (!folk.hasPerson(person)) {
            return UNKNOWN;
        }
        if (has(now.pot(), person)) {
            return LATE;
        }
        acts.push(now.packed());
        return now.asks(person, folk) ? now.given() : NONE;
    }

    public int lid() {
        acts.push(now.packed());
        now.moveLid();
        return now.doubt();
    }

    public int undo() {
        if (acts.size() == 0) {
            return LATE;
        }
        now.unpack(acts.pop());
        return acts.size();
    }

    // ---- pots

    public int would(int person, int pot) {
        if (!folk.hasPerson(person)) {
            return UNKNOWN;
        }
        if (!folk.hasPot(pot)) {
            return BAD;
        }
        return folk.isWilling(person, pot) ? 1 : 0;
    }

    public int worth(int pot) {
        return folk.hasPot(pot) ? folk.worthOf(pot) : BAD;
    }

    public int canBe(int what) {
        if (what < 0 || what > 2) {
            return BAD;
        }
        fromNow.countFrom(now.pot(), folk);
        if (what == 0) {
            return fromNow.reached();
        }
        return what == 1 ? fromNow.ofSome() : fromNow.ofAll();
    }

    public int rowAt(int pot, int i) {
        if (!folk.hasPot(pot)) {
            return BAD;
        }
        fromNow.countFrom(now.pot(), folk);
        int steps = Integer.bitCount(pot) - now.given();
        if (!fromNow.comesTo(pot) || i < 0 || i >= steps) {
            return NONE;
        }
        figures.read(fromNow.firstRowTo(pot), steps);
        return figures.at(i);
    }

    public int rows(int pot) {
        if (!folk.hasPot(pot)) {
            return BAD;
        }
        fromNow.countFrom(now.pot(), folk);
        return fromNow.rowsTo(pot);
    }

    public int best(int what) {
        if (what < 0 || what > 1) {
            return BAD;
        }
        fromNow.countFrom(now.pot(), folk);
        int best = now.pot();
        for (int pot = best; pot < folk.pots(); pot++) {
            if (fromNow.comesTo(pot) && folk.worthOf(pot) > folk.worthOf(best)) {
                best = pot;
            }
        }
        return what == 0 ? folk.worthOf(best) : best;
    }

    public int howSoon(int person) {
        if (!folk.hasPerson(person)) {
            return UNKNOWN;
        }
        fromNow.countFrom(now.pot(), folk);
        int least = NONE;
        for (int pot = now.pot(); pot < folk.pots(); pot++) {
            if (fromNow.comesTo(pot) && has(pot, person)) {
                int ahead = Integer.bitCount(pot) - now.given();
                least = least == NONE ? ahead : Math.min(least, ahead);
            }
        }
        return least;
    }

    public int bars(int person) {
        if (!folk.hasPerson(person)) {
            return UNKNOWN;
        }
        fromNow.countFrom(now.pot(), folk);
        int company = fromNow.companyOf(person);
        // who never gives bars nobody
        return company == 0 ? 0 : fromNow.ofSome() & ~company;
    }

    public int judged(int n, int row) {
        if (n < 1 || n > MOST_FIGURES || !figures.read(row, n)) {
            return BAD;
        }
        int pot = now.pot();
        for (int i = 0; i < n; i++) {
            int person = figures.at(i);
            if (!folk.isWilling(person, pot)) {
                return i;
            }
            pot |= bit(person);
        }
        return NONE;
    }

    // ---- shares, rests, turns

    public int share(int person, int pot, boolean upper) {
        if (!folk.hasPerson(person)) {
            return UNKNOWN;
        }
        if (!folk.hasPot(pot)) {
            return BAD;
        }
        fromEmpty.countFrom(0, folk);
        if (!has(pot, person) || !fromEmpty.comesTo(pot)) {
            return LATE;
        }
        int grown = fromEmpty.grownBy(person, pot, folk);
        return inLeastTerms(grown, fromEmpty.rowsTo(pot), upper);
    }

    public int content() {
        int given = now.given();
        if (given <= 0) {
            return 0;
        }
        int whole = folk.worthOf(now.pot());
        int part = whole / given;
        int larger = whole % given;
        int content = 0;
        for (int person = 0; person < folk.size(); person++) {
            if (has(now.pot(), person)) {
                int own = larger > 0 ? part + 1 : part;
                larger--;
                content |= own >= folk.told(person, Town.VALUE) ? bit(person) : 0;
            }
        }
        return content;
    }

    public int rests(int what) {
        if (what < 0 || what > 1) {
            return BAD;
        }
        fromEmpty.countFrom(0, folk);
        int count = 0;
        int first = NONE;
        for (int pot = 0; pot < folk.pots(); pot++) {
            if (fromEmpty.comesTo(pot) && folk.isRest(pot)) {
                count++;
                first = first == NONE ? pot : first;
            }
        }
        return what == 0 ? count : first;
    }

    public int byTurns(int what) {
        if (what < 0 || what > 1) {
            return BAD;
        }
        turns.play(folk);
        int winners = turns.winnersAt(now.pot());
        if (what == 0) {
            return winners != 0 ? 1 : 0;
        }
        return lowest(winners);
    }

    // ---- guessed

    public int see(int things, int gave, boolean gives) {
        if (things < 0 || things >= 1 << THINGS || gave < 0 || gave > MOST_PEOPLE) {
            return BAD;
        }
        if (guessed.seen() >= MOST_SEEN) {
            return FULL;
        }
        guessed.note(things, gave, gives);
        return guessed.seen();
    }

    public int unsee() {
        int were = guessed.seen();
        guessed.clear();
        return were;
    }

    public int laws(int what) {
        if (what < 0 || what > 2) {
            return BAD;
        }
        int fit = guessed.fitting();
        if (what == 0) {
            return fit;
        }
        if (fit == 0) {
            return NONE;
        }
        return guessed.common(what == 1);
    }

    public int toShow() {
        return guessed.bestParting();
    }

    public int taste(int k, int w, int what) {
        if (k < 0 || k > MOST_PEOPLE || w < 0 || w > MOST_TOLD_WORTH || what < 0 || what > 1) {
            return BAD;
        }
        fromEmpty.countFrom(0, folk);
        int count = 0;
        int common = folk.pots() - 1;
        for (int pot = 0; pot < folk.pots(); pot++) {
            if (fromEmpty.comesTo(pot) && Integer.bitCount(pot) == k && folk.worthOf(pot) == w) {
                count++;
                common &= pot;
            }
        }
        if (what == 0) {
            return count;
        }
        return count == 0 ? NONE : common;
    }

    public int luck(int person, int n, int row, int x, boolean upper) {
        if (!folk.hasPerson(person)) {
            return UNKNOWN;
        }
        if (n < 1 || n > MOST_PEOPLE || !figures.read(row, n) || x < 0 || x > 10) {
            return BAD;
        }
        chances.start(now.pot());
        for (int i = 0; i < n; i++) {
            if (folk.hasPerson(figures.at(i))) {
                chances.askOne(figures.at(i), x, folk);
            }
        }
        return inLeastTerms(chances.ofPotsWith(person), chances.ofAllPots(), upper);
    }

    public long seed(long v) {
        long was = seedNow;
        seedNow = v;
        return was;
    }

    public int evening(int m) {
        if (m < 1 || m > MOST_STEPS) {
            return BAD;
        }
        int people = folk.size();
        if (people <= 0) {
            return LATE;
        }
        dream.unpack(now.packed());
        for (int i = 0; i < m; i++) {
            seedNow = seedNow * 6364136223846793005L + 1442695040888963407L;
            int person = (int) ((seedNow >>> 33) % people);
            if (!has(dream.pot(), person)) {
                dream.asks(person, folk);
            }
        }
        return dream.pot();
    }

    // ---- slots

    public int keep(int slot) {
        if (slot < 0 || slot >= SLOTS) {
            return UNKNOWN;
        }
        slots.store(slot, now.packed());
        return now.given();
    }

    public int again(int slot) {
        if (slot < 0 || slot >= SLOTS) {
            return UNKNOWN;
        }
        if (!slots.isKept(slot)) {
            return LATE;
        }
        now.unpack(slots.keptAt(slot));
        acts.clear();
        return now.given();
    }

    // ---- what all parts use

    private static boolean has(int set, int i) {
        return i >= 0 && i < MOST_PEOPLE && (set >> i & 1) == 1;
    }

    private static int bit(int i) {
        return i >= 0 && i < MOST_PEOPLE ? 1 << i : 0;
    }

    private static int lowest(int set) {
        for (int i = 0; i < MOST_PEOPLE; i++) {
            if (has(set, i)) {
                return i;
            }
        }
        return NONE;
    }

    /** Rows are read and written through these two alone, so that no index leaves its row. */
    private static int cell(int[] row, int i) {
        return i >= 0 && i < row.length ? row[i] : 0;
    }

    private static void put(int[] row, int i, int value) {
        if (i >= 0 && i < row.length) {
            row[i] = value;
        }
    }

    private static int inLeastTerms(int above, int below, boolean upper) {
        int common = commonDivisor(above, below);
        if (common <= 0) {
            return upper ? above : below;
        }
        return upper ? above / common : below / common;
    }

    private static int commonDivisor(int a, int b) {
        int larger = a;
        int smaller = b;
        // Euclid needs fewer than 50 steps for ints
        for (int step = 0; step < 64 && smaller > 0; step++) {
            int left = larger % smaller;
            larger = smaller;
            smaller = left;
        }
        return larger;
    }

    /** THE TEXT. */
    private static final class Text {
        private static final int LETTERS_OF_ONE = 8;

        private final int[] letters = new int[MOST_LETTERS];
        private int length = 0;

        int size() {
            return length;
        }

        boolean isFull() {
            return length >= MOST_LETTERS;
        }

        void append(int letter) {
            if (!isFull()) {
                put(letters, length, letter);
                length++;
            }
        }

        void clear() {
            length = 0;
        }

        int people() {
            return length / LETTERS_OF_ONE;
        }

        /** What is told of a PERSON, from its THING (0) to its WORTH (6). */
        int told(int person, int what) {
            int letter = cell(letters, 1 + person * LETTERS_OF_ONE + 1 + what);
            if (letter == '-') {
                return NONE;
            }
            return letter >= 'a' ? letter - 'a' : letter - '0';
        }

        int firstFault() {
            for (int place = 0; place < length; place++) {
                if (!canStand(cell(letters, place), place)) {
                    return place;
                }
            }
            return length % LETTERS_OF_ONE == 1 ? NONE : length;
        }

        private static boolean canStand(int letter, int place) {
            if (place == 0) {
                return letter == 'S';
            }
            if (place > MOST_PEOPLE * LETTERS_OF_ONE) {
                return false;
            }
            switch ((place - 1) % LETTERS_OF_ONE) {
                case 0: return letter == 'P';
                case 1: return isThing(letter);
                case 2:
                case 3: return letter == '-' || isThing(letter);
                case 6: return letter == '-' || isFigureBelow(letter, MOST_PEOPLE);
                default: return isFigureBelow(letter, 10);
            }
        }

        private static boolean isThing(int letter) {
            return letter >= 'a' && letter < 'a' + THINGS;
        }

        private static boolean isFigureBelow(int letter, int bound) {
            return letter >= '0' && letter < '0' + bound;
        }
    }

    /** THE TOWN, with what every POT of it is asked for again and again. */
    private static final class Town {
        static final int THING = 0, NEEDS = 1, HATES = 2, LEAST = 3, MOST = 4, AFTER = 5, VALUE = 6;
        static final int TOLD = 7;
        private static final int WORTH_OF_UNLIKE = 3;

        private final int[] told = new int[MOST_PEOPLE * TOLD];
        private final int[] things = new int[POTS];
        private final int[] worths = new int[POTS];
        private final int[] willing = new int[POTS];
        private int people = 0;

        int size() {
            return people;
        }

        int pots() {
            return 1 << people;
        }

        boolean hasPerson(int person) {
            return person >= 0 && person < people;
        }

        boolean hasPot(int pot) {
            return pot >= 0 && pot < pots();
        }

        int told(int person, int what) {
            return cell(told, person * TOLD + what);
        }

        int thingsIn(int pot) {
            return cell(things, pot);
        }

        int worthOf(int pot) {
            return cell(worths, pot);
        }

        int willingAt(int pot) {
            return cell(willing, pot);
        }

        boolean isWilling(int person, int pot) {
            return has(willingAt(pot), person);
        }

        void settle(Text text) {
            people = Math.min(text.people(), MOST_PEOPLE);
            for (int person = 0; person < people; person++) {
                for (int what = 0; what < TOLD; what++) {
                    put(told, person * TOLD + what, text.told(person, what));
                }
            }
            for (int pot = 0; pot < pots(); pot++) {
                lookInto(pot);
            }
        }

        private void lookInto(int pot) {
            int inside = 0;
            int together = 0;
            for (int person = 0; person < people; person++) {
                if (has(pot, person)) {
                    inside |= bit(told(person, THING));
                    together += told(person, VALUE);
                }
            }
            put(things, pot, inside);
            put(worths, pot, together + WORTH_OF_UNLIKE * Integer.bitCount(inside));
            int givers = 0;
            for (int person = 0; person < people; person++) {
                givers |= likes(person, pot) ? bit(person) : 0;
            }
            put(willing, pot, givers);
        }

        private boolean likes(int person, int pot) {
            int gave = Integer.bitCount(pot);
            if (has(pot, person) || gave < told(person, LEAST) || gave > told(person, MOST)) {
                return false;
            }
            int needed = told(person, NEEDS);
            int first = told(person, AFTER);
            return (needed == NONE || has(thingsIn(pot), needed))
                && !has(thingsIn(pot), told(person, HATES))
                && (first == NONE || has(pot, first));
        }

        /** Whether nobody of the POT has cause to go and nobody who WOULD give has cause to come. */
        boolean isRest(int pot) {
            int gave = Integer.bitCount(pot);
            for (int person = 0; person < people; person++) {
                int own = told(person, VALUE);
                if (has(pot, person) && worthOf(pot) < gave * own) {
                    return false;
                }
                if (isWilling(person, pot) && worthOf(pot | bit(person)) > (gave + 1) * own) {
                    return false;
                }
            }
            return true;
        }
    }

    /** THE POT, DOUBT and THE LID. */
    private static final class Soup {
        private static final int TOO_MUCH_DOUBT = 3, MOST_DOUBT = 9;
        private static final int DOUBT_PLACE = 6, LID_PLACE = 10;

        private int pot = 0;
        private int doubt = 0;
        private boolean lidOn = true;

        int pot() {
            return pot;
        }

        int doubt() {
            return doubt;
        }

        boolean isLidOn() {
            return lidOn;
        }

        int given() {
            return Integer.bitCount(pot);
        }

        void start() {
            pot = 0;
            doubt = 0;
            lidOn = true;
        }

        /** One is ASKED: whether it gives. */
        boolean asks(int person, Town town) {
            if (doubt >= TOO_MUCH_DOUBT) {
                return false;
            }
            if (town.isWilling(person, pot)) {
                pot |= bit(person);
                return true;
            }
            doubt++;
            return false;
        }

        void moveLid() {
            if (lidOn) {
                doubt = pot != 0 ? Math.max(doubt - 1, 0) : Math.min(doubt + 1, MOST_DOUBT);
            }
            lidOn = !lidOn;
        }

        /** All in one number, so that what was is kept without an object. */
        int packed() {
            return pot | doubt << DOUBT_PLACE | (lidOn ? 1 << LID_PLACE : 0);
        }

        void unpack(int packed) {
            pot = packed & POTS - 1;
            doubt = packed >> DOUBT_PLACE & 15;
            lidOn = (packed >> LID_PLACE & 1) == 1;
        }
    }

    /** What was ahead of each ACT. */
    private static final class Acts {
        private final int[] before = new int[MOST_ACTS];
        private int next = 0;
        private int count = 0;

        int size() {
            return count;
        }

        void clear() {
            count = 0;
        }

        void push(int packed) {
            // in a full row the next place is the first ACT's, which is so forgotten
            put(before, next, packed);
            next = (next + 1) % MOST_ACTS;
            count = Math.min(count + 1, MOST_ACTS);
        }

        int pop() {
            next = (next + MOST_ACTS - 1) % MOST_ACTS;
            count = Math.max(count - 1, 0);
            return cell(before, next);
        }
    }

    private static final class Slots {
        private static final int NOTHING_KEPT = -1;

        private final int[] kept = new int[SLOTS];

        Slots() {
            clear();
        }

        void clear() {
            for (int slot = 0; slot < SLOTS; slot++) {
                put(kept, slot, NOTHING_KEPT);
            }
        }

        void store(int slot, int packed) {
            put(kept, slot, packed);
        }

        boolean isKept(int slot) {
            return keptAt(slot) != NOTHING_KEPT;
        }

        int keptAt(int slot) {
            return cell(kept, slot);
        }
    }

    /** The rows of PEOPLE from one POT to every other. */
    private static final class Ways {
        private final int[] rowCounts = new int[POTS];
        private final int[] firstRows = new int[POTS];
        private final int[] growths = new int[POTS];
        private int pots = 1;

        /** Who gives makes the POT's number greater, so one pass from below sees all rows. */
        void countFrom(int start, Town town) {
            pots = town.pots();
            for (int pot = 0; pot < POTS; pot++) {
                put(rowCounts, pot, 0);
                put(firstRows, pot, 0);
            }
            put(rowCounts, start, 1);
            for (int pot = start; pot < pots; pot++) {
                for (int person = 0; comesTo(pot) && person < town.size(); person++) {
                    if (town.isWilling(person, pot)) {
                        goOn(pot, person);
                    }
                }
            }
        }

        private void goOn(int pot, int person) {
            int then = pot | bit(person);
            // all rows to one POT are of one length, so the least as a number is the first
            int row = firstRowTo(pot) * 10 + person;
            if (!comesTo(then) || row < firstRowTo(then)) {
                put(firstRows, then, row);
            }
            put(rowCounts, then, rowsTo(then) + rowsTo(pot));
        }

        int rowsTo(int pot) {
            return cell(rowCounts, pot);
        }

        boolean comesTo(int pot) {
            return rowsTo(pot) > 0;
        }

        /** Each PERSON a figure. */
        int firstRowTo(int pot) {
            return cell(firstRows, pot);
        }

        int reached() {
            int count = 0;
            for (int pot = 0; pot < pots; pot++) {
                count += comesTo(pot) ? 1 : 0;
            }
            return count;
        }

        int ofSome() {
            int some = 0;
            for (int pot = 0; pot < pots; pot++) {
                some |= comesTo(pot) ? pot : 0;
            }
            return some;
        }

        int ofAll() {
            int all = pots - 1;
            for (int pot = 0; pot < pots; pot++) {
                all &= comesTo(pot) ? pot : all;
            }
            return all;
        }

        /** Who is of some POT that can be and has this PERSON (itself, too); 0: it is of none. */
        int companyOf(int person) {
            int company = 0;
            for (int pot = 0; pot < pots; pot++) {
                company |= comesTo(pot) && has(pot, person) ? pot : 0;
            }
            return company;
        }

        /** By how much WORTH grows when one gives, all rows to the goal together. */
        int grownBy(int person, int goal, Town town) {
            for (int pot = 0; pot < POTS; pot++) {
                put(growths, pot, 0);
            }
            for (int pot = 0; pot < goal; pot++) {
                for (int next = 0; comesTo(pot) && next < town.size(); next++) {
                    if (town.isWilling(next, pot)) {
                        int then = pot | bit(next);
                        int now = next == person ? town.worthOf(then) - town.worthOf(pot) : 0;
                        put(growths, then, cell(growths, then) + cell(growths, pot) + now * rowsTo(pot));
                    }
                }
            }
            return cell(growths, goal);
        }
    }

    /** Two soldiers' game from every POT. */
    private static final class Turns {
        private final int[] winners = new int[POTS];

        void play(Town town) {
            for (int pot = town.pots() - 1; pot >= 0; pot--) {
                int good = 0;
                for (int person = 0; person < town.size(); person++) {
                    boolean wins = town.isWilling(person, pot) && winnersAt(pot | bit(person)) == 0;
                    good |= wins ? bit(person) : 0;
                }
                put(winners, pot, good);
            }
        }

        /** By whom one who asks at the POT wins. */
        int winnersAt(int pot) {
            return cell(winners, pot);
        }
    }

    /**
     * The LAWS that FIT what is SEEN. That more have given never speaks against giving: so what
     * was SEEN leaves, of the LAWS of one n and one x, those whose l lies between two bounds, and
     * the bounds are all that must be kept.
     */
    private static final class Laws {
        private static final int CHOICES = THINGS + 1;
        private static final int PAIRS = CHOICES * CHOICES;

        private final int[] lows = new int[PAIRS];
        private final int[] highs = new int[PAIRS];
        private int count = 0;

        Laws() {
            clear();
        }

        int seen() {
            return count;
        }

        void clear() {
            count = 0;
            for (int pair = 0; pair < PAIRS; pair++) {
                put(lows, pair, 0);
                put(highs, pair, MOST_PEOPLE);
            }
        }

        void note(int things, int gave, boolean gives) {
            count++;
            for (int pair = 0; pair < PAIRS; pair++) {
                if (!isLiked(pair, things)) {
                    put(highs, pair, gives ? -1 : cell(highs, pair));
                } else if (gives) {
                    put(highs, pair, Math.min(cell(highs, pair), gave));
                } else {
                    put(lows, pair, Math.max(cell(lows, pair), gave + 1));
                }
            }
        }

        /** The choice behind the last THING is none, which is neither a bit nor ever there. */
        private static boolean isLiked(int pair, int things) {
            int needed = pair / CHOICES;
            return (needed == THINGS || has(things, needed)) && !has(things, pair % CHOICES);
        }

        private int fittingUpTo(int pair, int most) {
            return Math.max(Math.min(cell(highs, pair), most) - cell(lows, pair) + 1, 0);
        }

        int fitting() {
            int fit = 0;
            for (int pair = 0; pair < PAIRS; pair++) {
                fit += fittingUpTo(pair, MOST_PEOPLE);
            }
            return fit;
        }

        /** What all that fit have for their n, or for their x; none is no bit. */
        int common(boolean ofNeeds) {
            int common = (1 << THINGS) - 1;
            for (int pair = 0; pair < PAIRS; pair++) {
                if (fittingUpTo(pair, MOST_PEOPLE) > 0) {
                    common &= bit(ofNeeds ? pair / CHOICES : pair % CHOICES);
                }
            }
            return common;
        }

        private int givingTo(int things) {
            int givers = 0;
            for (int pair = 0; pair < PAIRS; pair++) {
                givers += isLiked(pair, things) ? fittingUpTo(pair, Integer.bitCount(things)) : 0;
            }
            return givers;
        }

        int bestParting() {
            int fit = fitting();
            if (fit == 0) {
                return NONE;
            }
            int best = 0;
            int most = -1;
            for (int things = 0; things < 1 << THINGS; things++) {
                int givers = givingTo(things);
                int fewer = Math.min(givers, fit - givers);
                if (fewer > most) {
                    most = fewer;
                    best = things;
                }
            }
            return best;
        }
    }

    /** A told row of figures, the first one's the highest. */
    private static final class Figures {
        private final int[] figures = new int[MOST_FIGURES];

        /** Whether the row has n figures at most; they are then at hand. */
        boolean read(int row, int n) {
            int left = row;
            for (int i = n - 1; i >= 0; i--) {
                put(figures, i, left % 10);
                left /= 10;
            }
            return row >= 0 && left == 0;
        }

        int at(int i) {
            return cell(figures, i);
        }
    }

    /** Of how many like chances each POT has how many. */
    private static final class Chances {
        private final int[] parts = new int[POTS];

        void start(int pot) {
            for (int other = 0; other < POTS; other++) {
                put(parts, other, 0);
            }
            put(parts, pot, 1);
        }

        /** One is asked and gives, where it WOULD, by so many tenths. */
        void askOne(int person, int tenths, Town town) {
            for (int pot = 0; pot < town.pots(); pot++) {
                if (!has(pot, person)) {
                    int then = pot | bit(person);
                    int gives = town.isWilling(person, pot) ? tenths : 0;
                    put(parts, then, cell(parts, then) * 10 + cell(parts, pot) * gives);
                    put(parts, pot, cell(parts, pot) * (10 - gives));
                }
            }
        }

        int ofPotsWith(int person) {
            int together = 0;
            for (int pot = 0; pot < POTS; pot++) {
                together += has(pot, person) ? cell(parts, pot) : 0;
            }
            return together;
        }

        int ofAllPots() {
            int together = 0;
            for (int pot = 0; pot < POTS; pot++) {
                together += cell(parts, pot);
            }
            return together;
        }
    }
}
