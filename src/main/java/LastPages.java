import java.util.Arrays;

/** Books whose last pages were stolen: what is told of them, what follows from it, and what becomes of them. */
public final class LastPages {
    public static final int NONE = -1;

    private static final int FINE = 0;
    private static final int NO_TRAY = 1;
    private static final int NO_THING = 2;
    private static final int TRAY_MISSING = 3;
    private static final int NO_PLACE = 4;
    private static final int NO_NUMBER = 5;
    private static final int BELOW_ZERO = 6;
    private static final int TOO_MANY = 7;
    private static final int THERE_IS_NONE = 8;
    private static final int IT_CANT_BE = 9;
    private static final int FAULTY = 10;
    private static final int UNLIKE_SORTS = 11;

    private static final int FAULT_NO_TOKEN = 1;
    private static final int FAULT_CANT_STAND = 2;
    private static final int FAULT_NAME = 3;
    private static final int FAULT_NUMBER = 4;
    private static final int FAULT_ITSELF = 5;
    private static final int FAULT_ONE_MORE = 6;
    private static final int FAULT_TOO_DEEP = 7;

    private static final int TRAYS = 4;
    private static final int SORTS = 4;
    private static final int TRAY_MOST = 60;
    private static final int TAPE_MOST = 900;
    private static final int FEED_BYTES = 20;
    private static final int WEEKS_MOST = 300;
    private static final int STATES_MOST = 8;
    private static final int TURNS_MOST = 8;
    private static final int BOOKS_MOST = 6;
    private static final int PAGES_MOST = 10;
    private static final int MISSES_MOST = 6;
    private static final int FINALES_MOST = 8;
    private static final int READERS_MOST = 6;
    private static final int HINTS_MOST = 12;
    private static final int HINT_PARTS = 4;
    private static final int OFFERS_MOST = 6;
    private static final int WATCHES_MOST = 8;
    private static final int NAMES_MOST =
        STATES_MOST + TURNS_MOST + BOOKS_MOST + FINALES_MOST + READERS_MOST + OFFERS_MOST + WATCHES_MOST;
    private static final int NAME_LETTERS_MOST = 8;
    private static final int DIGITS_MOST = 4;
    private static final int ODD_MOST = 9;
    private static final int ODD_UNTOLD = 1;
    private static final int COST_MOST = 99;
    private static final int MUCH_MOST = 999;
    private static final int GUARDS_MOST = 3;
    private static final int STEPS_MOST = 30;
    private static final int ROWS_MOST = 2 * STEPS_MOST;
    private static final int DEPTH_MOST = 3;
    private static final int LEFT_MOST = 9;
    private static final int ODDNESS_MOST = 99;
    private static final int LOOP_MOST = 99;
    private static final int LIVED_STEPS_MOST = 300;
    private static final int SEED_MOST = 9999;
    private static final int SEEDS_MOST = 20;
    private static final int MARKS_MOST = 3;
    /** One for each state at each missing place, and behind the last. */
    private static final int CELLS = (MISSES_MOST + 1) * STATES_MOST;

    /** The words that are no names, in the order of the numbers below. */
    private static final String WORDS =
        "state final turn odd rule to book from misses finale hint at is by reader offer costs tells watch guards follows bind loose call guess when done left loop end stop";
    private static final int WORDS_MANY = 31;
    private static final int STATE = 0;
    private static final int FINAL = 1;
    private static final int TURN = 2;
    private static final int ODD = 3;
    private static final int RULE = 4;
    private static final int TO = 5;
    private static final int BOOK = 6;
    private static final int FROM = 7;
    private static final int MISSES = 8;
    private static final int FINALE = 9;
    private static final int HINT = 10;
    private static final int AT = 11;
    private static final int IS = 12;
    private static final int BY = 13;
    private static final int READER = 14;
    private static final int OFFER = 15;
    private static final int COSTS = 16;
    private static final int TELLS = 17;
    private static final int WATCH = 18;
    private static final int GUARDS = 19;
    private static final int FOLLOWS = 20;
    private static final int BIND = 21;
    private static final int LOOSE = 22;
    private static final int CALL = 23;
    private static final int GUESS = 24;
    private static final int WHEN = 25;
    private static final int DONE = 26;
    private static final int LEFT = 27;
    private static final int LOOP = 28;
    private static final int END = 29;
    private static final int STOP = 30;

    private static final int TOKEN_NONE_LEFT = 0;
    private static final int TOKEN_WORD = 1;
    private static final int TOKEN_NUMBER = 2;
    private static final int TOKEN_SIGN = 3;
    private static final int TOKEN_BLANK = 4;
    private static final int TOKEN_WRONG = 5;

    private static final int MISSED = 0;
    private static final int BOUND = 1;
    private static final int LOOSED = 2;
    private static final int GUESSED = 3;
    private static final int CUT_OFF = 4;
    private static final int TALLIES = 5;

    private final Tray[] trays = new Tray[TRAYS];
    private final Tokens tokens = new Tokens();
    private final ShelfReader shelfReader = new ShelfReader();
    private final WeeksReader weeksReader = new WeeksReader();
    private final Shelf[] marks = new Shelf[MARKS_MOST];
    private final Endings endings = new Endings();
    private final Fitting fitting = new Fitting();
    private final Life life = new Life();
    private final int[] lived = new int[TALLIES];
    private Shelf shelf = new Shelf();
    private Shelf spareShelf = new Shelf();
    private Weeks spareWeeks = new Weeks();
    private int status = FINE;
    private long top = 0;
    private long bottom = 1;
    private int faultKind = NONE;
    private int faultPlace = NONE;
    private int marked = 0;

    public LastPages() {
        for (int i = 0; i < TRAYS; i++) {
            trays[i] = new Tray();
        }
        for (int i = 0; i < MARKS_MOST; i++) {
            marks[i] = new Shelf();
        }
        Arrays.fill(lived, NONE);
    }

    public int status() {
        return status;
    }

    public long top() {
        return top;
    }

    public long bottom() {
        return bottom;
    }

    // ---- TRAYS

    public boolean tray(int tray, int sort, int many) {
        Tray row = trayAt(tray);
        if (row == null || sort < 0 || sort >= SORTS) {
            return refuse(NO_TRAY);
        }
        if (many > TRAY_MOST) {
            return refuse(NO_NUMBER);
        }
        if (many < 0) {
            return refuse(BELOW_ZERO);
        }
        row.lay(sort, many);
        return agree();
    }

    public boolean write(int tray, int place, long v) {
        Tray row = trayAt(tray);
        int why = whyNoPlace(row, place);
        if (row == null || why != FINE) {
            return refuse(why);
        }
        row.put(place, v);
        return agree();
    }

    public long read(int tray, int place) {
        Tray row = trayAt(tray);
        int why = whyNoPlace(row, place);
        if (row == null || why != FINE) {
            return fail(why);
        }
        status = FINE;
        return row.numberAt(place);
    }

    public boolean pour(int tray, int i, int to, int j, int many) {
        Tray source = trayAt(tray);
        Tray goal = trayAt(to);
        if (source == null || goal == null) {
            return refuse(NO_TRAY);
        }
        if (!source.here || !goal.here) {
            return refuse(TRAY_MISSING);
        }
        if (source.sort != goal.sort) {
            return refuse(UNLIKE_SORTS);
        }
        if (many < 0) {
            return refuse(BELOW_ZERO);
        }
        if (!source.hasAll(i, many) || !goal.hasAll(j, many)) {
            return refuse(NO_PLACE);
        }
        System.arraycopy(source.row, i, goal.row, j, many);
        return agree();
    }

    // ---- texts

    public int feed(int a, int b, int c, int d, int e) {
        if (tokens.taped + FEED_BYTES > TAPE_MOST) {
            return NONE;
        }
        tokens.putFour(a);
        tokens.putFour(b);
        tokens.putFour(c);
        tokens.putFour(d);
        tokens.putFour(e);
        return tokens.taped;
    }

    public int shelf(int n) {
        if (n < 0 || n > tokens.taped) {
            return fail(NO_NUMBER);
        }
        boolean taken = shelfReader.readShelf(tokens, spareShelf, n);
        keepFault(taken);
        if (!taken) {
            return fail(FAULTY);
        }
        Shelf old = shelf;
        shelf = spareShelf;
        spareShelf = old;
        return give(shelf.books);
    }

    public int weeks(int n) {
        if (n < 0 || n > tokens.taped || n > WEEKS_MOST) {
            return fail(NO_NUMBER);
        }
        boolean taken = weeksReader.readWeeks(tokens, shelf, spareWeeks, n);
        keepFault(taken);
        if (!taken) {
            return fail(FAULTY);
        }
        Weeks old = shelf.weeks;
        shelf.weeks = spareWeeks;
        spareWeeks = old;
        return give(shelf.weeks.steps);
    }

    public int fault(int what) {
        switch (what) {
            case 0:
                return faultKind;
            case 1:
                return faultPlace;
            default:
                return NONE;
        }
    }

    public int many(int what) {
        switch (what) {
            case 0:
                return give(shelf.story.states);
            case 1:
                return give(shelf.story.turns);
            case 2:
                return give(shelf.books);
            case 3:
                return give(shelf.story.finales);
            case 4:
                return give(shelf.readers);
            case 5:
                return give(shelf.hints);
            case 6:
                return give(shelf.offers.many);
            case 7:
                return give(shelf.watches.many);
            case 8:
                return give(shelf.story.countRules());
            case 9:
                return give(shelf.story.finals);
            case 10:
                return give(shelf.finished());
            case 11:
                return give(shelf.liars);
            default:
                return fail(NO_NUMBER);
        }
    }

    public int rule(int state, int turn) {
        if (!shelf.story.hasState(state) || !shelf.story.hasTurn(turn)) {
            return fail(NO_THING);
        }
        return giveIfAny(shelf.story.leadsTo(state, turn));
    }

    public int odd(int turn) {
        if (!shelf.story.hasTurn(turn)) {
            return fail(NO_THING);
        }
        return give(shelf.story.oddOf(turn));
    }

    public int book(int book, int what) {
        if (!shelf.hasBook(book)) {
            return fail(NO_THING);
        }
        switch (what) {
            case 0:
                return give(shelf.from[book]);
            case 1:
                return give(shelf.pages[book]);
            case 2:
                return give(shelf.misses[book]);
            case 3:
                return giveIfAny(shelf.placeOf(book));
            case 4:
                return giveIfAny(shelf.breakOf(book));
            case 5:
                return giveIfAny(shelf.bound[book]);
            default:
                return fail(NO_NUMBER);
        }
    }

    public int page(int book, int page) {
        if (!shelf.hasBook(book)) {
            return fail(NO_THING);
        }
        return giveIfAny(shelf.turnOnPage(book, page));
    }

    public int finale(int finale, int place) {
        if (!shelf.story.hasFinale(finale)) {
            return fail(NO_THING);
        }
        return giveIfAny(shelf.story.turnInFinale(finale, place - 1));
    }

    public int hint(int hint, int what) {
        if (hint < 0 || hint >= shelf.hints || what < 0 || what >= HINT_PARTS) {
            return fail(NO_NUMBER);
        }
        return give(shelf.hintPart(hint, what));
    }

    public int offer(int offer, int what) {
        return lotPart(shelf.offers, offer, what);
    }

    public int watch(int watch, int what) {
        return lotPart(shelf.watches, watch, what);
    }

    public int copyFinale(int finale, int tray) {
        Tray row = trayAt(tray);
        if (row == null) {
            return fail(NO_TRAY);
        }
        if (!shelf.story.hasFinale(finale)) {
            return fail(NO_THING);
        }
        if (!row.here) {
            return fail(TRAY_MISSING);
        }
        int length = shelf.story.finaleLength[finale];
        if (row.length < length) {
            return fail(NO_PLACE);
        }
        for (int i = 0; i < length; i++) {
            row.put(i, shelf.story.turnInFinale(finale, i));
        }
        return give(length);
    }

    // ---- what is done

    public boolean bind(int book, int finale) {
        if (!shelf.hasBook(book) || !shelf.story.hasFinale(finale)) {
            return refuse(NO_THING);
        }
        if (!shelf.canTake(book, finale, endings.fittingFinales(shelf, book))) {
            return refuse(IT_CANT_BE);
        }
        shelf.bound[book] = finale;
        return agree();
    }

    public int loose(int book) {
        if (!shelf.hasBook(book)) {
            return fail(NO_THING);
        }
        int finale = shelf.bound[book];
        shelf.bound[book] = NONE;
        return giveIfAny(finale);
    }

    public boolean call(int reader, boolean liar) {
        if (!shelf.hasReader(reader)) {
            return refuse(NO_THING);
        }
        if (has(shelf.liars, reader) == liar) {
            return refuse(IT_CANT_BE);
        }
        shelf.liars ^= 1 << reader;
        return agree();
    }

    public boolean strange(int turn, int odd) {
        if (!shelf.story.hasTurn(turn)) {
            return refuse(NO_THING);
        }
        if (odd < 0 || odd > ODD_MOST) {
            return refuse(NO_NUMBER);
        }
        shelf.story.odd[turn] = odd;
        return agree();
    }

    public boolean close(int state, boolean is) {
        if (!shelf.story.hasState(state)) {
            return refuse(NO_THING);
        }
        if (shelf.story.isFinal(state) == is) {
            return refuse(IT_CANT_BE);
        }
        shelf.story.finals ^= 1 << state;
        return agree();
    }

    public boolean lead(int state, int turn, int to) {
        Story story = shelf.story;
        if (!story.hasState(state) || !story.hasTurn(turn) || to != NONE && !story.hasState(to)) {
            return refuse(NO_THING);
        }
        story.setRule(state, turn, to);
        return agree();
    }

    // ---- endings

    public long endings(int book) {
        if (!shelf.hasBook(book)) {
            return fail(NO_THING);
        }
        status = FINE;
        return endings.countOf(shelf, book, shelf.liars);
    }

    public int hopeless() {
        int set = 0;
        for (int book = 0; book < shelf.books; book++) {
            if (endings.countOf(shelf, book, shelf.liars) == 0) {
                set |= 1 << book;
            }
        }
        return give(set);
    }

    public int best(int book) {
        if (!shelf.hasBook(book)) {
            return fail(NO_THING);
        }
        return giveIfAny(endings.findBest(shelf, book));
    }

    public int bestAt(int book, int place) {
        int why = whyNoMissingPlace(book, place);
        if (why != FINE) {
            return fail(why);
        }
        return giveIfAny(endings.findBest(shelf, book) == NONE ? NONE : endings.triedAt(place - 1));
    }

    public int next(int book) {
        if (!shelf.hasBook(book)) {
            return fail(NO_THING);
        }
        if (endings.countOf(shelf, book, shelf.liars) < 2) {
            return fail(THERE_IS_NONE);
        }
        endings.countBefore();
        return give(endings.mostTelling() + 1);
    }

    public boolean chance(int book, int place, int turn) {
        if (!shelf.hasBook(book) || !shelf.story.hasTurn(turn)) {
            return refuse(NO_THING);
        }
        int why = whyNoMissingPlace(book, place);
        if (why != FINE) {
            return refuse(why);
        }
        long all = endings.countOf(shelf, book, shelf.liars);
        if (all == 0) {
            return refuse(THERE_IS_NONE);
        }
        endings.countBefore();
        tellFraction(endings.countWith(place - 1, turn), all);
        return agree();
    }

    public int may(int book, int place) {
        int why = whyNoMissingPlace(book, place);
        if (why != FINE) {
            return fail(why);
        }
        endings.countOf(shelf, book, shelf.liars);
        endings.countBefore();
        int set = 0;
        for (int turn = 0; turn < shelf.story.turns; turn++) {
            if (endings.countWith(place - 1, turn) > 0) {
                set |= 1 << turn;
            }
        }
        return give(set);
    }

    public int isEnding(int book, int tray, int n) {
        Tray row = trayAt(tray);
        if (row == null) {
            return fail(NO_TRAY);
        }
        if (!shelf.hasBook(book)) {
            return fail(NO_THING);
        }
        if (!row.here) {
            return fail(TRAY_MISSING);
        }
        if (n > row.length) {
            return fail(NO_PLACE);
        }
        if (n != shelf.misses[book] || !row.holdsTurns(n, shelf.story.turns)) {
            return fail(NO_NUMBER);
        }
        endings.lookAt(shelf, book, shelf.liars);
        for (int i = 0; i < n; i++) {
            endings.tryTurn(i, (int) row.numberAt(i));
        }
        return give(endings.isTriedOne() ? 1 : 0);
    }

    // ---- finales

    public int fits(int book, int finale) {
        if (!shelf.hasBook(book) || !shelf.story.hasFinale(finale)) {
            return fail(NO_THING);
        }
        return give(has(endings.fittingFinales(shelf, book), finale) ? 1 : 0);
    }

    public int finalesOf(int book) {
        if (!shelf.hasBook(book)) {
            return fail(NO_THING);
        }
        return give(endings.fittingFinales(shelf, book));
    }

    public int booksOf(int finale) {
        if (!shelf.story.hasFinale(finale)) {
            return fail(NO_THING);
        }
        fitting.lookAt(shelf, endings);
        return give(fitting.booksFor(finale));
    }

    public int oddness(int finale) {
        if (!shelf.story.hasFinale(finale)) {
            return fail(NO_THING);
        }
        return give(shelf.story.sumOdd(finale));
    }

    public int match() {
        fitting.lookAt(shelf, endings);
        return give(fitting.mostAtOnce());
    }

    public long ways() {
        fitting.lookAt(shelf, endings);
        status = FINE;
        return fitting.countWays();
    }

    public int clash() {
        fitting.lookAt(shelf, endings);
        return giveSize(fitting.leastClash());
    }

    public int clashSet() {
        fitting.lookAt(shelf, endings);
        return giveIfAny(fitting.leastClash());
    }

    public int finish() {
        fitting.lookAt(shelf, endings);
        return giveSize(fitting.fewestFinales());
    }

    public int finishSet() {
        fitting.lookAt(shelf, endings);
        return giveIfAny(fitting.fewestFinales());
    }

    public int liars(int book) {
        if (!shelf.hasBook(book)) {
            return fail(NO_THING);
        }
        return giveSize(endings.fewestLiars(shelf, book));
    }

    public int liarSet(int book) {
        if (!shelf.hasBook(book)) {
            return fail(NO_THING);
        }
        return giveIfAny(endings.fewestLiars(shelf, book));
    }

    // ---- offers, watches

    public int known(int offers) {
        if (offers < 0 || offers >= 1 << shelf.offers.many) {
            return fail(NO_NUMBER);
        }
        return give(shelf.knownBy(offers));
    }

    public int buy(int much) {
        if (much < 0 || much > MUCH_MOST) {
            return fail(NO_NUMBER);
        }
        return give(Integer.bitCount(shelf.knownBy(shelf.bestOffers(much))));
    }

    public int buySet(int much) {
        if (much < 0 || much > MUCH_MOST) {
            return fail(NO_NUMBER);
        }
        return give(shelf.bestOffers(much));
    }

    public int cheapest() {
        return giveIfAny(shelf.leastCostToKnowAll());
    }

    public int guard(int many) {
        if (many < 1 || many > GUARDS_MOST) {
            return fail(NO_NUMBER);
        }
        int set = shelf.bestWatches(many);
        return giveIfAny(set == NONE ? NONE : shelf.watches.costOfSet(set));
    }

    public int guardSet(int many) {
        if (many < 1 || many > GUARDS_MOST) {
            return fail(NO_NUMBER);
        }
        return giveIfAny(shelf.bestWatches(many));
    }

    public int barest() {
        return giveIfAny(shelf.leastGuarded());
    }

    // ---- WEEKS

    public int live(int seed) {
        if (seed < 0 || seed > SEED_MOST) {
            return fail(NO_NUMBER);
        }
        if (!shelf.weeks.here) {
            return fail(THERE_IS_NONE);
        }
        life.run(shelf, endings, seed);
        System.arraycopy(life.tallies, 0, lived, 0, TALLIES);
        return give(life.steps);
    }

    public int lived(int what) {
        if (what < 0 || what >= TALLIES) {
            return fail(NO_NUMBER);
        }
        return giveIfAny(lived[what]);
    }

    public boolean mean(int seed, int many) {
        if (seed < 0 || seed > SEED_MOST || many < 1 || many > SEEDS_MOST || seed + many - 1 > SEED_MOST) {
            return refuse(NO_NUMBER);
        }
        if (!shelf.weeks.here) {
            return refuse(THERE_IS_NONE);
        }
        int sum = 0;
        for (int i = 0; i < many; i++) {
            life.keep(shelf);
            life.run(shelf, endings, seed + i);
            sum += Integer.bitCount(shelf.finished());
            life.restore(shelf);
        }
        tellFraction(sum, many);
        return agree();
    }

    // ---- MARKS

    public int mark() {
        Shelf kept = markAt(marked);
        if (kept == null) {
            return fail(TOO_MANY);
        }
        kept.copyFrom(shelf);
        marked++;
        return give(marked);
    }

    public int back() {
        Shelf kept = markAt(marked - 1);
        if (kept == null) {
            return fail(THERE_IS_NONE);
        }
        marked--;
        marks[marked] = shelf;
        shelf = kept;
        return give(marked);
    }

    // ---- what the calls above share

    private int give(int answer) {
        status = FINE;
        return answer;
    }

    private int fail(int why) {
        status = why;
        return NONE;
    }

    private int giveIfAny(int answer) {
        return answer == NONE ? fail(THERE_IS_NONE) : give(answer);
    }

    private int giveSize(int set) {
        return set == NONE ? fail(THERE_IS_NONE) : give(Integer.bitCount(set));
    }

    private boolean agree() {
        status = FINE;
        return true;
    }

    private boolean refuse(int why) {
        status = why;
        return false;
    }

    private Tray trayAt(int tray) {
        return tray < 0 || tray >= TRAYS ? null : trays[tray];
    }

    private Shelf markAt(int mark) {
        return mark < 0 || mark >= MARKS_MOST ? null : marks[mark];
    }

    private static int whyNoPlace(Tray row, int place) {
        if (row == null) {
            return NO_TRAY;
        }
        if (!row.here) {
            return TRAY_MISSING;
        }
        return row.hasAll(place, 1) ? FINE : NO_PLACE;
    }

    private int whyNoMissingPlace(int book, int place) {
        if (!shelf.hasBook(book)) {
            return NO_THING;
        }
        return place < 1 || place > shelf.misses[book] ? NO_NUMBER : FINE;
    }

    private int lotPart(Lot lot, int number, int what) {
        if (!lot.hasOne(number)) {
            return fail(NO_THING);
        }
        switch (what) {
            case 0:
                return give(lot.cost[number]);
            case 1:
                return give(lot.set[number]);
            default:
                return fail(NO_NUMBER);
        }
    }

    private void keepFault(boolean taken) {
        faultKind = taken ? 0 : tokens.faultKind;
        faultPlace = taken ? NONE : tokens.faultPlace;
    }

    private void tellFraction(long part, long whole) {
        long divisor = commonDivisor(part, whole);
        if (divisor > 0) {
            top = part / divisor;
            bottom = whole / divisor;
        }
    }

    private static long commonDivisor(long a, long b) {
        long greater = a;
        long less = b;
        for (int i = 0; i < 100 && less != 0; i++) {
            long rest = greater % less;
            greater = less;
            less = rest;
        }
        return greater;
    }

    private static boolean has(int set, int number) {
        return (set >> number & 1) != 0;
    }

    /** Whoever goes through sets from the least number on and keeps the fewer ones ends with the first of the fewest. */
    private static boolean isFewer(int set, int best) {
        return best == NONE || Integer.bitCount(set) < Integer.bitCount(best);
    }

    /** A row of numbers of one sort. */
    private static final class Tray {
        final long[] row = new long[TRAY_MOST];
        boolean here = false;
        int sort = 0;
        int length = 0;

        void lay(int newSort, int many) {
            here = true;
            sort = newSort;
            length = many;
            Arrays.fill(row, 0L);
        }

        /** Told without a sum of the two, which could wrap around. */
        boolean hasAll(int place, int many) {
            return place >= 0 && place <= length && many <= length - place;
        }

        void put(int place, long v) {
            if (hasAll(place, 1)) {
                row[place] = cut(v);
            }
        }

        long numberAt(int place) {
            return hasAll(place, 1) ? row[place] : NONE;
        }

        boolean holdsTurns(int n, int turns) {
            for (int i = 0; i < n && i < length; i++) {
                if (row[i] < 0 || row[i] >= turns) {
                    return false;
                }
            }
            return true;
        }

        private long cut(long v) {
            switch (sort) {
                case 0:
                    return (byte) v;
                case 1:
                    return (short) v;
                case 2:
                    return (int) v;
                default:
                    return v;
            }
        }
    }

    /** The rules of all stories, and the loose finales. */
    private static final class Story {
        final int[] odd = new int[TURNS_MOST];
        final int[] leads = new int[STATES_MOST * TURNS_MOST];
        final int[] finaleLength = new int[FINALES_MOST];
        final int[] finaleTurn = new int[FINALES_MOST * MISSES_MOST];
        int states = 0;
        int turns = 0;
        int finals = 0;
        int finales = 0;

        void empty() {
            states = 0;
            turns = 0;
            finals = 0;
            finales = 0;
            Arrays.fill(leads, NONE);
        }

        void copyFrom(Story other) {
            states = other.states;
            turns = other.turns;
            finals = other.finals;
            finales = other.finales;
            System.arraycopy(other.odd, 0, odd, 0, TURNS_MOST);
            System.arraycopy(other.leads, 0, leads, 0, STATES_MOST * TURNS_MOST);
            System.arraycopy(other.finaleLength, 0, finaleLength, 0, FINALES_MOST);
            System.arraycopy(other.finaleTurn, 0, finaleTurn, 0, FINALES_MOST * MISSES_MOST);
        }

        boolean hasState(int state) {
            return state >= 0 && state < states;
        }

        boolean hasTurn(int turn) {
            return turn >= 0 && turn < turns;
        }

        boolean hasFinale(int finale) {
            return finale >= 0 && finale < finales;
        }

        void addState(boolean isFinal) {
            if (states < STATES_MOST) {
                finals |= isFinal ? 1 << states : 0;
                states++;
            }
        }

        void addTurn(int howOdd) {
            if (turns < TURNS_MOST) {
                odd[turns] = howOdd;
                turns++;
            }
        }

        void addFinale(int[] row, int length) {
            if (finales < FINALES_MOST && length <= MISSES_MOST && length <= row.length) {
                finaleLength[finales] = length;
                System.arraycopy(row, 0, finaleTurn, finales * MISSES_MOST, length);
                finales++;
            }
        }

        void setRule(int state, int turn, int to) {
            if (hasState(state) && hasTurn(turn) && (to == NONE || hasState(to))) {
                leads[state * TURNS_MOST + turn] = to;
            }
        }

        int leadsTo(int state, int turn) {
            if (state < 0 || state >= states || turn < 0 || turn >= turns) {
                return NONE;
            }
            return leads[state * TURNS_MOST + turn];
        }

        int countRules() {
            int sum = 0;
            for (int i = 0; i < STATES_MOST * TURNS_MOST; i++) {
                if (leadsTo(i / TURNS_MOST, i % TURNS_MOST) != NONE) {
                    sum++;
                }
            }
            return sum;
        }

        boolean isFinal(int state) {
            return hasState(state) && has(finals, state);
        }

        int oddOf(int turn) {
            return hasTurn(turn) ? odd[turn] : 0;
        }

        /** The places of a finale are from 0 on here. */
        int turnInFinale(int finale, int place) {
            if (!hasFinale(finale) || place < 0 || place >= finaleLength[finale]) {
                return NONE;
            }
            return finaleTurn[finale * MISSES_MOST + place];
        }

        int sumOdd(int finale) {
            int sum = 0;
            for (int i = 0; i < MISSES_MOST; i++) {
                sum += oddOf(turnInFinale(finale, i));
            }
            return sum;
        }
    }

    /** Things that have a cost and a set of books each: offers, or watches. */
    private static final class Lot {
        final int[] cost;
        final int[] set;
        int many = 0;

        Lot(int most) {
            cost = new int[Math.max(most, 0)];
            set = new int[Math.max(most, 0)];
        }

        void copyFrom(Lot other) {
            many = Math.min(other.many, cost.length);
            for (int i = 0; i < many && i < other.cost.length && i < other.set.length; i++) {
                cost[i] = other.cost[i];
                set[i] = other.set[i];
            }
        }

        boolean hasOne(int number) {
            return number >= 0 && number < many;
        }

        boolean isFull() {
            return many >= cost.length;
        }

        void addOne(int newCost, int books) {
            if (!isFull()) {
                cost[many] = newCost;
                set[many] = books;
                many++;
            }
        }

        int costOfSet(int chosen) {
            int sum = 0;
            for (int i = 0; i < many; i++) {
                sum += has(chosen, i) ? cost[i] : 0;
            }
            return sum;
        }

        int booksOfSet(int chosen) {
            int books = 0;
            for (int i = 0; i < many; i++) {
                books |= has(chosen, i) ? set[i] : 0;
            }
            return books;
        }

        int howOftenIn(int chosen, int book) {
            int sum = 0;
            for (int i = 0; i < many; i++) {
                sum += has(chosen, i) && has(set[i], book) ? 1 : 0;
            }
            return sum;
        }

        boolean isCheaper(int chosen, int other) {
            int more = costOfSet(chosen) - costOfSet(other);
            return more < 0 || more == 0 && isFewer(chosen, other);
        }
    }

    /** All that was told by a text of a shelf, what became of it since, and the weeks that belong to it. */
    private static final class Shelf {
        final Story story = new Story();
        final Lot offers = new Lot(OFFERS_MOST);
        final Lot watches = new Lot(WATCHES_MOST);
        final long[] names = new long[NAMES_MOST];
        final int[] kinds = new int[NAMES_MOST];
        final int[] numbers = new int[NAMES_MOST];
        final int[] from = new int[BOOKS_MOST];
        final int[] misses = new int[BOOKS_MOST];
        final int[] pages = new int[BOOKS_MOST];
        final int[] page = new int[BOOKS_MOST * PAGES_MOST];
        final int[] bound = new int[BOOKS_MOST];
        final int[] follows = new int[BOOKS_MOST];
        final int[] hint = new int[HINTS_MOST * HINT_PARTS];
        Weeks weeks = new Weeks();
        int named = 0;
        int books = 0;
        int readers = 0;
        int liars = 0;
        int hints = 0;

        void empty() {
            story.empty();
            offers.many = 0;
            watches.many = 0;
            weeks.empty();
            named = 0;
            books = 0;
            readers = 0;
            liars = 0;
            hints = 0;
        }

        void copyFrom(Shelf other) {
            story.copyFrom(other.story);
            offers.copyFrom(other.offers);
            watches.copyFrom(other.watches);
            weeks.copyFrom(other.weeks);
            System.arraycopy(other.names, 0, names, 0, NAMES_MOST);
            System.arraycopy(other.kinds, 0, kinds, 0, NAMES_MOST);
            System.arraycopy(other.numbers, 0, numbers, 0, NAMES_MOST);
            System.arraycopy(other.from, 0, from, 0, BOOKS_MOST);
            System.arraycopy(other.misses, 0, misses, 0, BOOKS_MOST);
            System.arraycopy(other.pages, 0, pages, 0, BOOKS_MOST);
            System.arraycopy(other.page, 0, page, 0, BOOKS_MOST * PAGES_MOST);
            System.arraycopy(other.bound, 0, bound, 0, BOOKS_MOST);
            System.arraycopy(other.follows, 0, follows, 0, BOOKS_MOST);
            System.arraycopy(other.hint, 0, hint, 0, HINTS_MOST * HINT_PARTS);
            named = other.named;
            books = other.books;
            readers = other.readers;
            liars = other.liars;
            hints = other.hints;
        }

        void addName(long name, int kind, int number) {
            if (named < NAMES_MOST) {
                names[named] = name;
                kinds[named] = kind;
                numbers[named] = number;
                named++;
            }
        }

        boolean hasName(long name) {
            for (int i = 0; i < named; i++) {
                if (names[i] == name) {
                    return true;
                }
            }
            return false;
        }

        int numberOf(long name, int kind) {
            for (int i = 0; i < named; i++) {
                if (names[i] == name && kinds[i] == kind) {
                    return numbers[i];
                }
            }
            return NONE;
        }

        boolean hasBook(int book) {
            return book >= 0 && book < books;
        }

        boolean hasReader(int reader) {
            return reader >= 0 && reader < readers;
        }

        void addBook(int state, int missing, int[] row, int length) {
            if (books < BOOKS_MOST && length <= PAGES_MOST && length <= row.length) {
                from[books] = state;
                misses[books] = missing;
                pages[books] = length;
                System.arraycopy(row, 0, page, books * PAGES_MOST, length);
                bound[books] = NONE;
                follows[books] = 0;
                books++;
            }
        }

        void addHint(int book, int place, int turn, int reader) {
            if (hints < HINTS_MOST) {
                int at = hints * HINT_PARTS;
                hint[at] = book;
                hint[at + 1] = place;
                hint[at + 2] = turn;
                hint[at + 3] = reader;
                hints++;
            }
        }

        int hintPart(int number, int part) {
            if (number < 0 || number >= hints || part < 0 || part >= HINT_PARTS) {
                return NONE;
            }
            return hint[number * HINT_PARTS + part];
        }

        /** The set of readers who gave hints of a book. */
        int speakersOf(int book) {
            int set = 0;
            for (int i = 0; i < hints; i++) {
                set |= hintPart(i, 0) == book ? 1 << hintPart(i, 3) : 0;
            }
            return set;
        }

        int turnOnPage(int book, int number) {
            if (!hasBook(book) || number < 0 || number >= pages[book]) {
                return NONE;
            }
            return page[book * PAGES_MOST + number];
        }

        /** The page at which a book breaks. */
        int breakOf(int book) {
            if (!hasBook(book)) {
                return NONE;
            }
            int state = from[book];
            for (int i = 0; i < pages[book]; i++) {
                state = story.leadsTo(state, page[book * PAGES_MOST + i]);
                if (state == NONE) {
                    return i;
                }
            }
            return NONE;
        }

        int placeOf(int book) {
            if (!hasBook(book)) {
                return NONE;
            }
            int state = from[book];
            for (int i = 0; i < pages[book] && state != NONE; i++) {
                state = story.leadsTo(state, page[book * PAGES_MOST + i]);
            }
            return state;
        }

        int allBooks() {
            return (1 << books) - 1;
        }

        /** The set of books that have a finale. */
        int finished() {
            int set = 0;
            for (int book = 0; book < books; book++) {
                set |= bound[book] == NONE ? 0 : 1 << book;
            }
            return set;
        }

        /** The set of finales that are in books. */
        int boundFinales() {
            int set = 0;
            for (int book = 0; book < books; book++) {
                set |= bound[book] == NONE ? 0 : 1 << bound[book];
            }
            return set;
        }

        boolean canTake(int book, int finale, int fit) {
            return hasBook(book) && bound[book] == NONE && !has(boundFinales(), finale) && has(fit, finale);
        }

        int knownBy(int chosen) {
            int known = offers.booksOfSet(chosen);
            // What follows may follow on again, but through no more books than there are.
            for (int round = 0; round < books; round++) {
                for (int book = 0; book < books; book++) {
                    known |= has(known, book) ? follows[book] : 0;
                }
            }
            return known;
        }

        int bestOffers(int much) {
            int best = 0;
            for (int chosen = 1; chosen < 1 << offers.many; chosen++) {
                if (offers.costOfSet(chosen) <= much && isBetterBuy(chosen, best)) {
                    best = chosen;
                }
            }
            return best;
        }

        private boolean isBetterBuy(int chosen, int other) {
            int more = Integer.bitCount(knownBy(chosen)) - Integer.bitCount(knownBy(other));
            return more > 0 || more == 0 && offers.isCheaper(chosen, other);
        }

        int leastCostToKnowAll() {
            int least = NONE;
            for (int chosen = 0; chosen < 1 << offers.many; chosen++) {
                int cost = offers.costOfSet(chosen);
                if ((least == NONE || cost < least) && knownBy(chosen) == allBooks()) {
                    least = cost;
                }
            }
            return least;
        }

        int bestWatches(int many) {
            int best = NONE;
            for (int chosen = 0; chosen < 1 << watches.many; chosen++) {
                if ((best == NONE || watches.isCheaper(chosen, best)) && guardsAll(chosen, many)) {
                    best = chosen;
                }
            }
            return best;
        }

        private boolean guardsAll(int chosen, int many) {
            for (int book = 0; book < books; book++) {
                if (watches.howOftenIn(chosen, book) < many) {
                    return false;
                }
            }
            return true;
        }

        int leastGuarded() {
            int all = (1 << watches.many) - 1;
            int barest = NONE;
            int least = WATCHES_MOST + 1;
            for (int book = 0; book < books; book++) {
                int guards = watches.howOftenIn(all, book);
                if (guards < least) {
                    barest = book;
                    least = guards;
                }
            }
            return barest;
        }
    }

    /** Weeks as rows: one for each step (a when has the word of its test) and one for each end, which has a partner. */
    private static final class Weeks {
        final int[] word = new int[ROWS_MOST];
        final int[] sign = new int[ROWS_MOST];
        final int[] thing = new int[ROWS_MOST];
        final int[] number = new int[ROWS_MOST];
        final int[] partner = new int[ROWS_MOST];
        boolean here = false;
        int rows = 0;
        int steps = 0;

        void empty() {
            here = false;
            rows = 0;
            steps = 0;
        }

        void copyFrom(Weeks other) {
            here = other.here;
            rows = other.rows;
            steps = other.steps;
            System.arraycopy(other.word, 0, word, 0, ROWS_MOST);
            System.arraycopy(other.sign, 0, sign, 0, ROWS_MOST);
            System.arraycopy(other.thing, 0, thing, 0, ROWS_MOST);
            System.arraycopy(other.number, 0, number, 0, ROWS_MOST);
            System.arraycopy(other.partner, 0, partner, 0, ROWS_MOST);
        }

        boolean hasRow(int row) {
            return row >= 0 && row < rows;
        }

        void addRow(int newWord, int newThing, int newSign, int newNumber) {
            if (rows < ROWS_MOST) {
                word[rows] = newWord;
                thing[rows] = newThing;
                sign[rows] = newSign;
                number[rows] = newNumber;
                partner[rows] = NONE;
                rows++;
                steps += newWord == END ? 0 : 1;
            }
        }

        /** The end of what was begun in an earlier row. */
        void closeRow(int beginning) {
            int end = rows;
            addRow(END, NONE, 0, 0);
            if (hasRow(beginning) && hasRow(end)) {
                partner[beginning] = end;
                partner[end] = beginning;
            }
        }
    }

    /** The tape, the tokens along a text that stands on it, one at a time, and the first fault. */
    private static final class Tokens {
        final byte[] text = new byte[TAPE_MOST];
        final long[] words = new long[WORDS_MANY];
        int taped = 0;
        int length = 0;
        int at = 0;
        int kind = TOKEN_NONE_LEFT;
        int start = 0;
        int number = 0;
        int word = NONE;
        long name = 0;
        int passed = NONE;
        int faultKind = 0;
        int faultPlace = NONE;

        Tokens() {
            int many = 0;
            for (int i = 0; i < WORDS.length() && many < WORDS_MANY; i++) {
                int letter = WORDS.charAt(i);
                if (letter == ' ') {
                    many++;
                } else {
                    words[many] = words[many] << 5 | letter - 'a' + 1;
                }
            }
        }

        void putFour(int four) {
            for (int shift = 24; shift >= 0 && taped < TAPE_MOST; shift -= 8) {
                text[taped] = (byte) (four >> shift);
                taped++;
            }
        }

        /** The tape counts as empty from here on; its bytes stay until the next are fed, which is behind the last token. */
        void begin(int n) {
            taped = 0;
            length = Math.min(n, TAPE_MOST);
            at = 0;
            faultKind = 0;
            faultPlace = NONE;
            advance();
        }

        void advance() {
            for (int i = at; i < length && sortOf(text[i]) == TOKEN_BLANK; i++) {
                at = i + 1;
            }
            start = at;
            word = NONE;
            name = 0;
            kind = start < length ? sortOf(text[start]) : TOKEN_NONE_LEFT;
            boolean goesOn = kind == TOKEN_WORD || kind == TOKEN_NUMBER;
            for (int i = start; i < length && (i == start || goesOn && sortOf(text[i]) == kind); i++) {
                at = i + 1;
            }
            if (kind == TOKEN_WORD) {
                takeWord();
            } else if (kind == TOKEN_NUMBER) {
                takeNumber();
            }
        }

        private static int sortOf(int letter) {
            if (letter >= 'a' && letter <= 'z') {
                return TOKEN_WORD;
            }
            if (letter >= '0' && letter <= '9') {
                return TOKEN_NUMBER;
            }
            if (letter == 10 || letter == 32) {
                return TOKEN_BLANK;
            }
            return letter == ';' || letter == '<' || letter == '>' || letter == '=' ? TOKEN_SIGN : TOKEN_WRONG;
        }

        /** A word of up to eight letters becomes one number, five bits a letter; a longer one stays 0, which is none. */
        private void takeWord() {
            if (at - start > NAME_LETTERS_MOST) {
                return;
            }
            for (int i = start; i < at; i++) {
                name = name << 5 | text[i] - 'a' + 1;
            }
            for (int i = 0; i < WORDS_MANY; i++) {
                if (words[i] == name) {
                    word = i;
                }
            }
        }

        private void takeNumber() {
            number = 0;
            if (at - start > DIGITS_MOST) {
                kind = TOKEN_WRONG;
                return;
            }
            for (int i = start; i < at; i++) {
                number = number * 10 + text[i] - '0';
            }
        }

        /** Of one token the least kind is told, and where none begins that is 1 whatever was awaited. */
        boolean blame(int why) {
            faultKind = kind == TOKEN_WRONG ? FAULT_NO_TOKEN : why;
            faultPlace = start;
            return false;
        }

        boolean isSemicolon() {
            return kind == TOKEN_SIGN && text[start] == ';';
        }

        boolean passSemicolon() {
            if (!isSemicolon()) {
                return blame(FAULT_CANT_STAND);
            }
            advance();
            return true;
        }

        boolean passCompares() {
            if (kind != TOKEN_SIGN || text[start] == ';') {
                return blame(FAULT_CANT_STAND);
            }
            passed = text[start];
            advance();
            return true;
        }

        boolean passWord(int wanted) {
            if (word != wanted) {
                return blame(FAULT_CANT_STAND);
            }
            advance();
            return true;
        }

        boolean passNumber(int least, int most) {
            if (kind != TOKEN_NUMBER) {
                return blame(FAULT_CANT_STAND);
            }
            if (number < least || number > most) {
                return blame(FAULT_NUMBER);
            }
            passed = number;
            advance();
            return true;
        }

        private boolean isName() {
            return kind == TOKEN_WORD && word == NONE && name != 0;
        }

        boolean passNew(Shelf shelf, int kindOfThing, int numberOfThing) {
            if (!isName()) {
                return blame(FAULT_CANT_STAND);
            }
            if (shelf.hasName(name)) {
                return blame(FAULT_NAME);
            }
            shelf.addName(name, kindOfThing, numberOfThing);
            advance();
            return true;
        }

        /** Not passed yet, so that the caller can still blame this name for more than that it is none. */
        boolean seeOld(Shelf shelf, int kindOfThing) {
            if (!isName()) {
                return blame(FAULT_CANT_STAND);
            }
            passed = shelf.numberOf(name, kindOfThing);
            return passed != NONE || blame(FAULT_NAME);
        }

        boolean passOld(Shelf shelf, int kindOfThing) {
            if (!seeOld(shelf, kindOfThing)) {
                return false;
            }
            advance();
            return true;
        }
    }

    /** Reads a text as a shelf, part by part. */
    private static final class ShelfReader {
        final int[] row = new int[PAGES_MOST];
        int rowLength = 0;

        boolean readShelf(Tokens tokens, Shelf shelf, int n) {
            shelf.empty();
            tokens.begin(n);
            for (int i = 0; i <= TAPE_MOST && tokens.kind != TOKEN_NONE_LEFT; i++) {
                if (!readPart(tokens, shelf)) {
                    return false;
                }
            }
            return true;
        }

        private boolean readPart(Tokens tokens, Shelf shelf) {
            switch (tokens.word) {
                case STATE:
                    return readState(tokens, shelf);
                case TURN:
                    return readTurn(tokens, shelf);
                case RULE:
                    return readRule(tokens, shelf);
                case BOOK:
                    return readBook(tokens, shelf);
                case FINALE:
                    return readFinale(tokens, shelf);
                case HINT:
                    return readHint(tokens, shelf);
                case READER:
                    return readReader(tokens, shelf);
                case OFFER:
                    return readLot(tokens, shelf, shelf.offers, OFFER, TELLS);
                case WATCH:
                    return readLot(tokens, shelf, shelf.watches, WATCH, GUARDS);
                case FOLLOWS:
                    return readFollows(tokens, shelf);
                default:
                    return tokens.blame(FAULT_CANT_STAND);
            }
        }

        private boolean readState(Tokens tokens, Shelf shelf) {
            if (shelf.story.states >= STATES_MOST) {
                return tokens.blame(FAULT_ONE_MORE);
            }
            tokens.advance();
            if (!tokens.passNew(shelf, STATE, shelf.story.states)) {
                return false;
            }
            boolean isFinal = tokens.word == FINAL;
            if (isFinal) {
                tokens.advance();
            }
            shelf.story.addState(isFinal);
            return tokens.passSemicolon();
        }

        private boolean readTurn(Tokens tokens, Shelf shelf) {
            if (shelf.story.turns >= TURNS_MOST) {
                return tokens.blame(FAULT_ONE_MORE);
            }
            tokens.advance();
            if (!tokens.passNew(shelf, TURN, shelf.story.turns)) {
                return false;
            }
            int odd = ODD_UNTOLD;
            if (tokens.word == ODD) {
                tokens.advance();
                if (!tokens.passNumber(0, ODD_MOST)) {
                    return false;
                }
                odd = tokens.passed;
            }
            shelf.story.addTurn(odd);
            return tokens.passSemicolon();
        }

        private boolean readRule(Tokens tokens, Shelf shelf) {
            tokens.advance();
            if (!tokens.passOld(shelf, STATE)) {
                return false;
            }
            int state = tokens.passed;
            if (!tokens.passOld(shelf, TURN)) {
                return false;
            }
            int turn = tokens.passed;
            if (!tokens.passWord(TO) || !tokens.passOld(shelf, STATE)) {
                return false;
            }
            shelf.story.setRule(state, turn, tokens.passed);
            return tokens.passSemicolon();
        }

        private boolean readBook(Tokens tokens, Shelf shelf) {
            if (shelf.books >= BOOKS_MOST) {
                return tokens.blame(FAULT_ONE_MORE);
            }
            tokens.advance();
            if (!tokens.passNew(shelf, BOOK, shelf.books) || !tokens.passWord(FROM) || !tokens.passOld(shelf, STATE)) {
                return false;
            }
            int state = tokens.passed;
            if (!tokens.passWord(MISSES) || !tokens.passNumber(1, MISSES_MOST)) {
                return false;
            }
            int misses = tokens.passed;
            if (!readTurns(tokens, shelf, PAGES_MOST)) {
                return false;
            }
            shelf.addBook(state, misses, row, rowLength);
            return tokens.passSemicolon();
        }

        private boolean readFinale(Tokens tokens, Shelf shelf) {
            if (shelf.story.finales >= FINALES_MOST) {
                return tokens.blame(FAULT_ONE_MORE);
            }
            tokens.advance();
            if (!tokens.passNew(shelf, FINALE, shelf.story.finales) || !readTurns(tokens, shelf, MISSES_MOST)) {
                return false;
            }
            if (rowLength == 0) {
                return tokens.blame(FAULT_CANT_STAND);
            }
            shelf.story.addFinale(row, rowLength);
            return tokens.passSemicolon();
        }

        private boolean readTurns(Tokens tokens, Shelf shelf, int most) {
            rowLength = 0;
            for (int i = 0; i <= PAGES_MOST && !tokens.isSemicolon(); i++) {
                if (!tokens.seeOld(shelf, TURN)) {
                    return false;
                }
                if (i >= most || i >= row.length) {
                    return tokens.blame(FAULT_ONE_MORE);
                }
                row[i] = tokens.passed;
                rowLength = i + 1;
                tokens.advance();
            }
            return true;
        }

        private boolean readHint(Tokens tokens, Shelf shelf) {
            if (shelf.hints >= HINTS_MOST) {
                return tokens.blame(FAULT_ONE_MORE);
            }
            tokens.advance();
            if (!tokens.passOld(shelf, BOOK)) {
                return false;
            }
            int book = tokens.passed;
            int most = shelf.hasBook(book) ? shelf.misses[book] : 0;
            if (!tokens.passWord(AT) || !tokens.passNumber(1, most)) {
                return false;
            }
            int place = tokens.passed;
            if (!tokens.passWord(IS) || !tokens.passOld(shelf, TURN)) {
                return false;
            }
            int turn = tokens.passed;
            if (!tokens.passWord(BY) || !tokens.passOld(shelf, READER)) {
                return false;
            }
            shelf.addHint(book, place, turn, tokens.passed);
            return tokens.passSemicolon();
        }

        private boolean readReader(Tokens tokens, Shelf shelf) {
            if (shelf.readers >= READERS_MOST) {
                return tokens.blame(FAULT_ONE_MORE);
            }
            tokens.advance();
            if (!tokens.passNew(shelf, READER, shelf.readers)) {
                return false;
            }
            shelf.readers++;
            return tokens.passSemicolon();
        }

        private boolean readLot(Tokens tokens, Shelf shelf, Lot lot, int kind, int verb) {
            if (lot.isFull()) {
                return tokens.blame(FAULT_ONE_MORE);
            }
            tokens.advance();
            if (!tokens.passNew(shelf, kind, lot.many) || !tokens.passWord(COSTS) || !tokens.passNumber(0, COST_MOST)) {
                return false;
            }
            int cost = tokens.passed;
            if (!tokens.passWord(verb)) {
                return false;
            }
            int books = 0;
            for (int i = 0; i <= TAPE_MOST && !tokens.isSemicolon(); i++) {
                if (!tokens.passOld(shelf, BOOK)) {
                    return false;
                }
                books |= 1 << tokens.passed;
            }
            lot.addOne(cost, books);
            return tokens.passSemicolon();
        }

        private boolean readFollows(Tokens tokens, Shelf shelf) {
            tokens.advance();
            if (!tokens.passOld(shelf, BOOK)) {
                return false;
            }
            int first = tokens.passed;
            if (!tokens.seeOld(shelf, BOOK)) {
                return false;
            }
            if (tokens.passed == first) {
                return tokens.blame(FAULT_ITSELF);
            }
            if (shelf.hasBook(first)) {
                shelf.follows[first] |= 1 << tokens.passed;
            }
            tokens.advance();
            return tokens.passSemicolon();
        }
    }

    /** Reads a text as weeks, step by step. */
    private static final class WeeksReader {
        final int[] open = new int[DEPTH_MOST];
        int depth = 0;

        boolean readWeeks(Tokens tokens, Shelf shelf, Weeks weeks, int n) {
            weeks.empty();
            weeks.here = true;
            depth = 0;
            tokens.begin(n);
            for (int i = 0; i <= WEEKS_MOST && tokens.kind != TOKEN_NONE_LEFT; i++) {
                boolean isFine = tokens.word == END
                    ? readEnd(tokens, weeks)
                    : mayStep(tokens, weeks) && readStep(tokens, shelf, weeks) && tokens.passSemicolon();
                if (!isFine) {
                    return false;
                }
            }
            return depth == 0 || tokens.blame(FAULT_CANT_STAND);
        }

        private boolean readEnd(Tokens tokens, Weeks weeks) {
            if (depth < 1 || depth > DEPTH_MOST) {
                return tokens.blame(FAULT_CANT_STAND);
            }
            depth--;
            weeks.closeRow(open[depth]);
            tokens.advance();
            return tokens.passSemicolon();
        }

        private boolean mayStep(Tokens tokens, Weeks weeks) {
            switch (tokens.word) {
                case BIND:
                case LOOSE:
                case CALL:
                case GUESS:
                case STOP:
                    return weeks.steps < STEPS_MOST || tokens.blame(FAULT_ONE_MORE);
                case WHEN:
                case LOOP:
                    if (weeks.steps >= STEPS_MOST) {
                        return tokens.blame(FAULT_ONE_MORE);
                    }
                    return depth < DEPTH_MOST || tokens.blame(FAULT_TOO_DEEP);
                default:
                    return tokens.blame(FAULT_CANT_STAND);
            }
        }

        private boolean readStep(Tokens tokens, Shelf shelf, Weeks weeks) {
            int step = tokens.word;
            tokens.advance();
            switch (step) {
                case BIND:
                    return readBind(tokens, shelf, weeks);
                case LOOSE:
                case GUESS:
                    return readAbout(tokens, shelf, weeks, step, BOOK);
                case CALL:
                    return readAbout(tokens, shelf, weeks, step, READER);
                case WHEN:
                    return readTest(tokens, shelf, weeks);
                case LOOP:
                    return readLoop(tokens, weeks);
                default:
                    weeks.addRow(step, NONE, 0, 0);
                    return true;
            }
        }

        private boolean readBind(Tokens tokens, Shelf shelf, Weeks weeks) {
            if (!tokens.passOld(shelf, BOOK)) {
                return false;
            }
            int book = tokens.passed;
            if (!tokens.passOld(shelf, FINALE)) {
                return false;
            }
            weeks.addRow(BIND, book, 0, tokens.passed);
            return true;
        }

        private boolean readAbout(Tokens tokens, Shelf shelf, Weeks weeks, int step, int kind) {
            if (!tokens.passOld(shelf, kind)) {
                return false;
            }
            weeks.addRow(step, tokens.passed, 0, 0);
            return true;
        }

        private boolean readLoop(Tokens tokens, Weeks weeks) {
            if (!tokens.passNumber(1, LOOP_MOST)) {
                return false;
            }
            openRow(weeks);
            weeks.addRow(LOOP, NONE, 0, tokens.passed);
            return true;
        }

        private boolean readTest(Tokens tokens, Shelf shelf, Weeks weeks) {
            int test = tokens.word;
            if (test != DONE && test != LEFT && test != ODD) {
                return tokens.blame(FAULT_CANT_STAND);
            }
            tokens.advance();
            if (test != LEFT && !tokens.passOld(shelf, BOOK)) {
                return false;
            }
            int book = test == LEFT ? NONE : tokens.passed;
            if (test != DONE && !tokens.passCompares()) {
                return false;
            }
            int sign = tokens.passed;
            if (test != DONE && !tokens.passNumber(0, test == LEFT ? LEFT_MOST : ODDNESS_MOST)) {
                return false;
            }
            openRow(weeks);
            weeks.addRow(test, book, sign, tokens.passed);
            return true;
        }

        /** The next row waits for its end. */
        private void openRow(Weeks weeks) {
            if (depth >= 0 && depth < DEPTH_MOST) {
                open[depth] = weeks.rows;
                depth++;
            }
        }
    }

    /** The endings of one book at a time: how many there are, which is the best, what fits. */
    private static final class Endings {
        final int[] allowed = new int[MISSES_MOST];
        final int[] tried = new int[MISSES_MOST];
        final long[] before = new long[CELLS];
        final long[] after = new long[CELLS];
        final int[] least = new int[CELLS];
        Story story = new Story();
        int misses = 0;
        int start = NONE;

        /** All that is asked of this object next is asked of this book, without the hints of the unheard readers. */
        void lookAt(Shelf shelf, int book, int unheard) {
            story = shelf.story;
            misses = shelf.hasBook(book) ? Math.min(shelf.misses[book], MISSES_MOST) : 0;
            start = shelf.placeOf(book);
            Arrays.fill(allowed, (1 << story.turns) - 1);
            for (int i = 0; i < shelf.hints; i++) {
                int place = shelf.hintPart(i, 1) - 1;
                if (shelf.hintPart(i, 0) == book && !has(unheard, shelf.hintPart(i, 3)) && isPlace(place)) {
                    allowed[place] &= 1 << shelf.hintPart(i, 2);
                }
            }
        }

        private boolean isPlace(int place) {
            return place >= 0 && place < misses;
        }

        /** The state to which a turn leads at a place, from 0 on, if it may stand there. */
        private int stepTo(int place, int state, int turn) {
            if (place < 0 || place >= misses || !has(allowed[place], turn)) {
                return NONE;
            }
            return story.leadsTo(state, turn);
        }

        long countOf(Shelf shelf, int book, int unheard) {
            lookAt(shelf, book, unheard);
            for (int state = 0; state < story.states; state++) {
                after[misses * STATES_MOST + state] = story.isFinal(state) ? 1 : 0;
            }
            for (int place = misses - 1; place >= 0; place--) {
                for (int state = 0; state < story.states; state++) {
                    after[place * STATES_MOST + state] = sumAfter(place, state);
                }
            }
            return start < 0 || start >= STATES_MOST ? 0 : after[start];
        }

        private long sumAfter(int place, int state) {
            long sum = 0;
            for (int turn = 0; turn < story.turns; turn++) {
                int to = stepTo(place, state, turn);
                sum += to == NONE ? 0 : after[(place + 1) * STATES_MOST + to];
            }
            return sum;
        }

        /** In how many ways each state is come to at each place. */
        void countBefore() {
            Arrays.fill(before, 0L);
            if (start >= 0 && start < STATES_MOST) {
                before[start] = 1;
            }
            for (int place = 0; place < misses; place++) {
                for (int state = 0; state < story.states; state++) {
                    spread(place, state);
                }
            }
        }

        private void spread(int place, int state) {
            for (int turn = 0; turn < story.turns; turn++) {
                int to = stepTo(place, state, turn);
                if (to != NONE) {
                    before[(place + 1) * STATES_MOST + to] += before[place * STATES_MOST + state];
                }
            }
        }

        /** How many endings have a turn at a place, from 0 on: asked behind countOf and countBefore. */
        long countWith(int place, int turn) {
            long sum = 0;
            for (int state = 0; state < story.states; state++) {
                int to = stepTo(place, state, turn);
                if (to != NONE) {
                    sum += before[place * STATES_MOST + state] * after[(place + 1) * STATES_MOST + to];
                }
            }
            return sum;
        }

        /** The place, from 0 on, whose turn leaves the fewest endings at worst: asked behind countOf and countBefore. */
        int mostTelling() {
            int best = NONE;
            long fewest = 0;
            for (int place = 0; place < misses; place++) {
                long most = 0;
                for (int turn = 0; turn < story.turns; turn++) {
                    most = Math.max(most, countWith(place, turn));
                }
                if (best == NONE || most < fewest) {
                    best = place;
                    fewest = most;
                }
            }
            return best;
        }

        /** The oddness of the best ending, which is the one tried then. */
        int findBest(Shelf shelf, int book) {
            lookAt(shelf, book, shelf.liars);
            for (int state = 0; state < story.states; state++) {
                least[misses * STATES_MOST + state] = story.isFinal(state) ? 0 : NONE;
            }
            for (int place = misses - 1; place >= 0; place--) {
                for (int state = 0; state < story.states; state++) {
                    leastOver(place, state);
                }
            }
            if (start < 0 || start >= STATES_MOST || least[start] == NONE) {
                return NONE;
            }
            int state = start;
            for (int place = 0; place < misses; place++) {
                tried[place] = leastOver(place, state);
                state = stepTo(place, state, tried[place]);
            }
            return least[start];
        }

        /** Writes down the least oddness from a place and a state on, and tells the first turn that leads to it. */
        private int leastOver(int place, int state) {
            int first = NONE;
            int sum = NONE;
            for (int turn = 0; turn < story.turns; turn++) {
                int to = stepTo(place, state, turn);
                int rest = to == NONE ? NONE : least[(place + 1) * STATES_MOST + to];
                if (rest != NONE && (first == NONE || rest + story.oddOf(turn) < sum)) {
                    first = turn;
                    sum = rest + story.oddOf(turn);
                }
            }
            if (state >= 0 && state < STATES_MOST) {
                least[place * STATES_MOST + state] = sum;
            }
            return first;
        }

        void tryTurn(int place, int turn) {
            if (isPlace(place)) {
                tried[place] = turn;
            }
        }

        int triedAt(int place) {
            return isPlace(place) ? tried[place] : NONE;
        }

        boolean isTriedOne() {
            int state = start;
            for (int place = 0; place < misses; place++) {
                state = stepTo(place, state, tried[place]);
            }
            return story.isFinal(state);
        }

        int fittingFinales(Shelf shelf, int book) {
            lookAt(shelf, book, shelf.liars);
            int set = 0;
            for (int finale = 0; finale < story.finales; finale++) {
                for (int place = 0; place < misses; place++) {
                    tried[place] = story.turnInFinale(finale, place);
                }
                if (story.finaleLength[finale] == misses && isTriedOne()) {
                    set |= 1 << finale;
                }
            }
            return set;
        }

        int fewestLiars(Shelf shelf, int book) {
            int speakers = shelf.speakersOf(book);
            if (countOf(shelf, book, speakers) == 0) {
                return NONE;
            }
            int best = speakers;
            for (int set = 0; set < speakers; set++) {
                // A set with one who said nothing of this book is never among the fewest.
                boolean isCandidate = (set & ~speakers) == 0 && isFewer(set, best);
                if (isCandidate && countOf(shelf, book, set) > 0) {
                    best = set;
                }
            }
            return best;
        }
    }

    /** Which finales fit which books, and what follows from it for all books together. */
    private static final class Fitting {
        final int[] fit = new int[BOOKS_MOST];
        final long[] ways = new long[1 << FINALES_MOST];
        int books = 0;
        int finales = 0;

        void lookAt(Shelf shelf, Endings endings) {
            books = Math.min(shelf.books, BOOKS_MOST);
            finales = Math.min(shelf.story.finales, FINALES_MOST);
            for (int book = 0; book < books; book++) {
                fit[book] = endings.fittingFinales(shelf, book);
            }
        }

        int booksFor(int finale) {
            int set = 0;
            for (int book = 0; book < books; book++) {
                set |= has(fit[book], finale) ? 1 << book : 0;
            }
            return set;
        }

        /** By how many books of a set there are more than finales that fit them together. */
        private int tooMany(int set) {
            int together = 0;
            for (int book = 0; book < books; book++) {
                together |= has(set, book) ? fit[book] : 0;
            }
            return Integer.bitCount(set) - Integer.bitCount(together);
        }

        /** As many books go without a finale as are too many in the worst set of them (Hall, Ore). */
        int mostAtOnce() {
            int worst = 0;
            for (int set = 1; set < 1 << books; set++) {
                worst = Math.max(worst, tooMany(set));
            }
            return books - worst;
        }

        int leastClash() {
            int best = NONE;
            for (int set = 1; set < 1 << books; set++) {
                if (isFewer(set, best) && tooMany(set) > 0) {
                    best = set;
                }
            }
            return best;
        }

        /** Book by book, in how many ways each set of finales can be given out. */
        long countWays() {
            Arrays.fill(ways, 0L);
            ways[0] = 1;
            for (int book = 0; book < books; book++) {
                for (int given = 0; given < 1 << finales; given++) {
                    if (Integer.bitCount(given) == book && ways[given] > 0) {
                        giveOut(given, fit[book] & ~given);
                    }
                }
            }
            long sum = 0;
            for (int given = 0; given < 1 << finales; given++) {
                sum += Integer.bitCount(given) == books ? ways[given] : 0;
            }
            return sum;
        }

        private void giveOut(int given, int free) {
            for (int finale = 0; finale < finales; finale++) {
                if (has(free, finale)) {
                    ways[given | 1 << finale] += ways[given];
                }
            }
        }

        int fewestFinales() {
            int best = NONE;
            for (int set = 0; set < 1 << finales; set++) {
                if (isFewer(set, best) && servesAll(set)) {
                    best = set;
                }
            }
            return best;
        }

        private boolean servesAll(int set) {
            for (int book = 0; book < books; book++) {
                if ((fit[book] & set) == 0) {
                    return false;
                }
            }
            return true;
        }
    }

    /** What becomes of a shelf by its weeks and a seed. */
    private static final class Life {
        final int[] tallies = new int[TALLIES];
        final int[] rounds = new int[ROWS_MOST];
        final int[] fit = new int[BOOKS_MOST];
        final int[] keptBound = new int[BOOKS_MOST];
        int keptLiars = 0;
        int steps = 0;
        int chance = 0;

        /** Weeks change nothing but what is bound and who is called a liar. */
        void keep(Shelf shelf) {
            System.arraycopy(shelf.bound, 0, keptBound, 0, BOOKS_MOST);
            keptLiars = shelf.liars;
        }

        void restore(Shelf shelf) {
            System.arraycopy(keptBound, 0, shelf.bound, 0, BOOKS_MOST);
            shelf.liars = keptLiars;
        }

        void run(Shelf shelf, Endings endings, int seed) {
            Arrays.fill(tallies, 0);
            Arrays.fill(fit, NONE);
            steps = 0;
            chance = seed;
            Weeks weeks = shelf.weeks;
            int row = 0;
            for (int i = 0; i < 1000000 && weeks.hasRow(row); i++) {
                int word = weeks.word[row];
                if (word == END) {
                    row = behindEnd(weeks, row);
                    continue;
                }
                if (steps >= LIVED_STEPS_MOST) {
                    tallies[CUT_OFF] = 1;
                    return;
                }
                steps++;
                if (word == STOP) {
                    return;
                }
                if (word == BIND || word == GUESS) {
                    findFit(shelf, endings, weeks.thing[row]);
                }
                row = takeStep(shelf, weeks, row);
            }
        }

        /** What fits is the same until a reader is called, so it is kept until then. */
        private void findFit(Shelf shelf, Endings endings, int book) {
            if (shelf.hasBook(book) && fit[book] == NONE) {
                fit[book] = endings.fittingFinales(shelf, book);
            }
        }

        private int behindEnd(Weeks weeks, int row) {
            int beginning = weeks.partner[row];
            if (!weeks.hasRow(beginning) || weeks.word[beginning] != LOOP) {
                return row + 1;
            }
            rounds[beginning]--;
            return rounds[beginning] > 0 ? beginning + 1 : row + 1;
        }

        private int takeStep(Shelf shelf, Weeks weeks, int row) {
            int thing = weeks.thing[row];
            switch (weeks.word[row]) {
                case BIND:
                    bindOne(shelf, thing, weeks.number[row]);
                    return row + 1;
                case LOOSE:
                    looseOne(shelf, thing);
                    return row + 1;
                case CALL:
                    shelf.liars ^= shelf.hasReader(thing) ? 1 << thing : 0;
                    Arrays.fill(fit, NONE);
                    return row + 1;
                case GUESS:
                    guessOne(shelf, thing);
                    return row + 1;
                case LOOP:
                    rounds[row] = weeks.number[row];
                    // Going round where nothing is between a loop and its end would only cost time.
                    return weeks.partner[row] == row + 1 ? row + 2 : row + 1;
                default:
                    return holds(shelf, weeks, row) ? row + 1 : weeks.partner[row] + 1;
            }
        }

        private void bindOne(Shelf shelf, int book, int finale) {
            if (!shelf.hasBook(book) || !shelf.canTake(book, finale, fit[book])) {
                tallies[MISSED]++;
                return;
            }
            shelf.bound[book] = finale;
            tallies[BOUND]++;
        }

        private void looseOne(Shelf shelf, int book) {
            if (!shelf.hasBook(book) || shelf.bound[book] == NONE) {
                tallies[MISSED]++;
                return;
            }
            shelf.bound[book] = NONE;
            tallies[LOOSED]++;
        }

        private void guessOne(Shelf shelf, int book) {
            int free = shelf.hasBook(book) && shelf.bound[book] == NONE ? fit[book] & ~shelf.boundFinales() : 0;
            if (free == 0) {
                tallies[MISSED]++;
                return;
            }
            int skipped = drawBy(Integer.bitCount(free));
            for (int i = 0; i < skipped; i++) {
                free &= free - 1;
            }
            shelf.bound[book] = Integer.numberOfTrailingZeros(free);
            tallies[BOUND]++;
            tallies[GUESSED]++;
        }

        private int drawBy(int n) {
            chance = (chance * 2971 + 10687) % 65536;
            return n > 0 ? chance / 8 % n : 0;
        }

        private static boolean holds(Shelf shelf, Weeks weeks, int row) {
            int book = weeks.thing[row];
            int finale = shelf.hasBook(book) ? shelf.bound[book] : NONE;
            switch (weeks.word[row]) {
                case DONE:
                    return finale != NONE;
                case LEFT:
                    return compares(shelf.books - Integer.bitCount(shelf.finished()), weeks.sign[row], weeks.number[row]);
                default:
                    return compares(shelf.story.sumOdd(finale), weeks.sign[row], weeks.number[row]);
            }
        }

        private static boolean compares(int one, int sign, int other) {
            switch (sign) {
                case '<':
                    return one < other;
                case '>':
                    return one > other;
                default:
                    return one == other;
            }
        }
    }
}
