import java.math.BigInteger;

/** The sentences of promises 29 to 60: each with its bounds, and each STATUS that it names. */
final class BoundsOfAnswers {
    /** What is no book, finale and so on of three; 32 and 33 are 0 and 1 for a shift. */
    private static final int[] OFF = {-1, 3, 32, 33, Integer.MIN_VALUE, Integer.MAX_VALUE};

    private BoundsOfAnswers() { }

    static void run() {
        endings();
        best();
        asking();
        trying();
        fitting();
        together();
        liars();
        offers();
        watches();
        living();
        mean();
        marks();
    }

    private static void endings() {
        Sentences.promise(29, "How many ENDINGS a BOOK has (2).", () -> {
            LastPages x = Rich.object();
            long[] due = {1, 2, 0};
            for (int book = 0; book < 3; book++) {
                Checks.fine("book " + book, x, x.endings(book), due[book]);
            }
            for (int off : OFF) {
                Sentences.refused(2, Rich::object, y -> y.endings(off));
            }
        });
        Sentences.promise(30, "The set of BOOKS without an ENDING.", () -> {
            LastPages none = new LastPages();
            Checks.fine("no books", none, none.hopeless(), 0);
            LastPages x = Rich.object();
            Checks.fine("the last", x, x.hopeless(), 4);
            x.call(1, false);
            Checks.fine("two", x, x.hopeless(), 6);
            LastPages y = Shelves.fits(1, 1, 1, 1, 1, 1, 1);
            Checks.fine("no one", y, y.hopeless(), 0);
            y.close(6, false);
            Checks.fine("all six", y, y.hopeless(), 63);
        });
    }

    private static void best() {
        Sentences.promise(31, "ODDNESS of the BEST ENDING (2; 8: none).", () -> {
            LastPages x = Rich.object();
            Checks.fine("book 0", x, x.best(0), 1);
            Checks.fine("book 1", x, x.best(1), 4);
            x.strange(0, 0);
            Checks.fine("nothing odd", x, x.best(0), 0);
            x.close(0, false);
            Checks.refused("none any more", x, x.best(0), 8);
            x.close(0, true);
            Checks.fine("again", x, x.best(0), 0);
            for (int off : OFF) {
                Sentences.refused(2, Rich::object, y -> y.best(off));
            }
            Sentences.refused(8, Rich::object, y -> y.best(2));
        });
        Sentences.promise(32, "The TURN of the BEST ENDING at a place (2; 5: no such place; 8; 5 ahead of 8).", () -> {
            LastPages x = Rich.object();
            Checks.fine("the first", x, x.bestAt(1, 1), 0);
            Checks.fine("the last", x, x.bestAt(1, 2), 1);
            LastPages y = Checks.with(Shelves.free(2, "book k from s misses 6;reader r;hint k at 1 is b by r;hint k "
                + "at 6 is b by r;"));
            int[] due = {1, 0, 0, 0, 0, 1};
            for (int place = 1; place <= 6; place++) {
                Checks.fine("place " + place, y, y.bestAt(0, place), due[place - 1]);
            }
            Checks.refused("a seventh", y, y.bestAt(0, 7), 5);
            for (int off : OFF) {
                Sentences.refused(2, Rich::object, z -> z.bestAt(off, 1));
                Sentences.refused(2, Rich::object, z -> z.bestAt(off, 0));
            }
            for (int off : new int[] {0, -1, 3, Integer.MIN_VALUE, Integer.MAX_VALUE}) {
                Sentences.refused(5, Rich::object, z -> z.bestAt(1, off));
                Sentences.refused(5, Rich::object, z -> z.bestAt(2, off));
            }
            Sentences.refused(5, Rich::object, z -> z.bestAt(2, 2));
            Sentences.refused(8, Rich::object, z -> z.bestAt(2, 1));
        });
    }

    private static void asking() {
        Sentences.promise(33, "NEXT (2; 8).", () -> {
            LastPages x = Rich.object();
            Checks.fine("two endings, alike nowhere", x, x.next(1), 1);
            for (int off : OFF) {
                Sentences.refused(2, Rich::object, y -> y.next(off));
            }
            Sentences.refused(8, Rich::object, y -> y.next(0));
            Sentences.refused(8, Rich::object, y -> y.next(2));
        });
        Sentences.promise(34, "The FRACTION is CHANCE (2; 5: no such place; 8: there are no ENDINGS).", () -> {
            LastPages x = Rich.object();
            Checks.fine("all", x, x.chance(0, 1, 0));
            Checks.fraction("all", x, 1, 1);
            Checks.fine("none", x, x.chance(0, 1, 2));
            Checks.fraction("none", x, 0, 1);
            Checks.fine("half, at the last place", x, x.chance(1, 2, 1));
            Checks.fraction("half", x, 1, 2);
            for (int off : OFF) {
                Sentences.denied(2, Rich::object, y -> y.chance(off, 1, 0));
                Sentences.denied(2, Rich::object, y -> y.chance(0, 1, off));
                Sentences.denied(2, Rich::object, y -> y.chance(2, 0, off));
            }
            for (int off : new int[] {0, -1, 3, Integer.MIN_VALUE, Integer.MAX_VALUE}) {
                Sentences.denied(5, Rich::object, y -> y.chance(1, off, 0));
                Sentences.denied(5, Rich::object, y -> y.chance(2, off, 0));
            }
            Sentences.denied(8, Rich::object, y -> y.chance(2, 1, 0));
        });
        Sentences.promise(35, "The set of TURNS that some ENDING has at a place (2; 5).", () -> {
            LastPages x = Rich.object();
            Checks.fine("one", x, x.may(0, 1), 1);
            Checks.fine("two", x, x.may(1, 2), 3);
            Checks.fine("no ending", x, x.may(2, 1), 0);
            LastPages y = Checks.with(Shelves.free(8, "book k from s misses 6;"));
            Checks.fine("all, at the first", y, y.may(0, 1), 255);
            Checks.fine("all, at the sixth", y, y.may(0, 6), 255);
            Checks.refused("a seventh", y, y.may(0, 7), 5);
            for (int off : OFF) {
                Sentences.refused(2, Rich::object, z -> z.may(off, 1));
                Sentences.refused(2, Rich::object, z -> z.may(off, 0));
            }
            for (int off : new int[] {0, -1, 3, Integer.MIN_VALUE, Integer.MAX_VALUE}) {
                Sentences.refused(5, Rich::object, z -> z.may(1, off));
                Sentences.refused(5, Rich::object, z -> z.may(2, off));
            }
        });
    }

    /** Tray 1 has these two, and what is no turn behind them. */
    private static LastPages tried(long first, long second) {
        LastPages x = Rich.object();
        x.tray(1, 3, 3);
        x.write(1, 0, first);
        x.write(1, 1, second);
        x.write(1, 2, 99);
        return x;
    }

    private static void trying() {
        Sentences.promise(36, "1 if the first n numbers of a TRAY, as TURNS, are an ENDING of a BOOK, else 0", () -> {
            int[][] due = {{0, 1, 1}, {1, 0, 1}, {0, 0, 0}, {1, 1, 0}, {2, 1, 0}, {0, 2, 0}};
            for (int[] d : due) {
                LastPages x = tried(d[0], d[1]);
                Checks.fine(d[0] + " " + d[1], x, x.isEnding(1, 1, 2), d[2]);
            }
            LastPages y = Rich.object();
            Checks.fine("just two in the tray", y, y.isEnding(1, 0, 2), 1);
            y.call(1, false);
            Checks.fine("against a hint", y, y.isEnding(1, 0, 2), 0);
            Checks.fine("a book that breaks", y, y.isEnding(2, 0, 1), 0);
        });
        Sentences.promise(36, "(1; 2; 3; 4; 5: n not what it MISSES, no TURN).", () -> {
            for (int off : new int[] {-1, 4, Integer.MIN_VALUE, Integer.MAX_VALUE}) {
                Sentences.refused(1, Rich::object, x -> x.isEnding(1, off, 2));
                Sentences.refused(1, Rich::object, x -> x.isEnding(9, off, 9));
            }
            for (int off : OFF) {
                Sentences.refused(2, Rich::object, x -> x.isEnding(off, 0, 2));
                Sentences.refused(2, Rich::object, x -> x.isEnding(off, 3, 99));
            }
            Sentences.refused(3, Rich::object, x -> x.isEnding(1, 3, 2));
            Sentences.refused(3, Rich::object, x -> x.isEnding(1, 3, 99));
            Sentences.refused(4, Rich::object, x -> x.isEnding(1, 2, 2));
            Sentences.refused(4, Rich::object, x -> x.isEnding(0, 0, 3));
            Sentences.refused(4, Rich::object, x -> x.isEnding(0, 0, Integer.MAX_VALUE));
            Sentences.refused(5, Rich::object, x -> x.isEnding(1, 0, 1));
            Sentences.refused(5, Rich::object, x -> x.isEnding(0, 0, 2));
            Sentences.refused(5, Rich::object, x -> x.isEnding(0, 0, 0));
            Sentences.refused(5, Rich::object, x -> x.isEnding(0, 0, -1));
            long[] noTurns = {-1, 3, 99, 1L << 32, Long.MIN_VALUE, Long.MAX_VALUE};
            for (long no : noTurns) {
                Sentences.refused(5, () -> tried(no, 0), x -> x.isEnding(1, 1, 2));
                Sentences.refused(5, () -> tried(0, no), x -> x.isEnding(1, 1, 2));
            }
            // What comes behind the first n may be no turn.
            LastPages y = tried(0, 99);
            Checks.fine("the first alone", y, y.isEnding(0, 1, 1), 1);
        });
    }

    private static void fitting() {
        Sentences.promise(37, "1 if a FINALE FITS a BOOK, else 0 (2).", () -> {
            LastPages x = Rich.object();
            int[] due = {1, 2, 0};
            for (int book = 0; book < 3; book++) {
                for (int finale = 0; finale < 3; finale++) {
                    Checks.fine("book " + book + ", finale " + finale, x, x.fits(book, finale), due[book] >> finale & 1);
                }
            }
            for (int off : OFF) {
                Sentences.refused(2, Rich::object, y -> y.fits(off, 0));
                Sentences.refused(2, Rich::object, y -> y.fits(0, off));
            }
        });
        Sentences.promise(38, "The set of FINALES that FIT a BOOK (2).", () -> {
            LastPages x = Shelves.fits(8, 0, 128, 255);
            int[] due = {0, 128, 255};
            for (int book = 0; book < 3; book++) {
                Checks.fine("book " + book, x, x.finalesOf(book), due[book]);
            }
            for (int off : OFF) {
                Sentences.refused(2, Rich::object, y -> y.finalesOf(off));
            }
        });
        Sentences.promise(39, "The set of BOOKS that a FINALE FITS (2).", () -> {
            LastPages x = Shelves.fits(8, 2, 2, 2, 2, 2, 130);
            Checks.fine("none", x, x.booksOf(0), 0);
            Checks.fine("all", x, x.booksOf(1), 63);
            Checks.fine("the last", x, x.booksOf(7), 32);
            for (int off : OFF) {
                Sentences.refused(2, Rich::object, y -> y.booksOf(off));
            }
        });
        Sentences.promise(40, "ODDNESS of a FINALE (2).", () -> {
            LastPages x = Rich.object();
            int[] due = {1, 4, 6};
            for (int finale = 0; finale < 3; finale++) {
                Checks.fine("finale " + finale, x, x.oddness(finale), due[finale]);
            }
            for (int off : OFF) {
                Sentences.refused(2, Rich::object, y -> y.oddness(off));
            }
        });
    }

    private static void together() {
        Sentences.promise(41, "MATCH: how many.", () -> {
            LastPages x = Rich.object();
            Checks.fine("two of three", x, x.match(), 2);
            LastPages none = new LastPages();
            Checks.fine("no books", none, none.match(), 0);
        });
        Sentences.promise(42, "WAYS (1 without BOOKS).", () -> {
            LastPages none = new LastPages();
            Checks.fine("no books", none, none.ways(), 1);
            LastPages finales = Shelves.fits(8);
            Checks.fine("no books, but finales", finales, finales.ways(), 1);
            LastPages x = Shelves.fits(2, 3, 3);
            Checks.fine("two", x, x.ways(), 2);
            Checks.fine("asked again", x, x.ways(), 2);
            LastPages y = Shelves.fits(1, 0);
            Checks.fine("none", y, y.ways(), 0);
        });
        Sentences.promise(43, "CLASH: how many (8: none).", () -> {
            LastPages x = Shelves.fits(1, 1, 1);
            Checks.fine("two", x, x.clash(), 2);
            Sentences.refused(8, LastPages::new, LastPages::clash);
            Sentences.refused(8, () -> bound(0), LastPages::clash);
        });
        Sentences.promise(44, "The set of CLASH (8).", () -> {
            LastPages x = Shelves.fits(1, 1, 1);
            Checks.fine("both", x, x.clashSet(), 3);
            Sentences.refused(8, LastPages::new, LastPages::clashSet);
            Sentences.refused(8, () -> bound(0), LastPages::clashSet);
        });
        Sentences.promise(45, "FINISH: how many (8: it can't be).", () -> {
            LastPages none = new LastPages();
            Checks.fine("no books", none, none.finish(), 0);
            LastPages x = Shelves.fits(2, 1, 2);
            Checks.fine("two", x, x.finish(), 2);
            Sentences.refused(8, Rich::object, LastPages::finish);
        });
        Sentences.promise(46, "The set of FINISH (8).", () -> {
            LastPages none = new LastPages();
            Checks.fine("no books", none, none.finishSet(), 0);
            LastPages x = Shelves.fits(2, 1, 2);
            Checks.fine("both", x, x.finishSet(), 3);
            Sentences.refused(8, Rich::object, LastPages::finishSet);
        });
    }

    /** Two books that two finales fit, the first with this one. */
    private static LastPages bound(int finale) {
        LastPages x = Shelves.fits(2, 3, 3);
        x.bind(0, finale);
        return x;
    }

    private static void liars() {
        Sentences.promise(47, "LIARS of a BOOK: how many (2; 8: no ENDING without any HINT).", () -> {
            LastPages x = Rich.object();
            Checks.fine("none must lie", x, x.liars(0), 0);
            Checks.fine("one, who is called one", x, x.liars(1), 1);
            for (int off : OFF) {
                Sentences.refused(2, Rich::object, y -> y.liars(off));
            }
            Sentences.refused(8, Rich::object, y -> y.liars(2));
        });
        Sentences.promise(48, "The set of LIARS (2; 8).", () -> {
            LastPages x = Rich.object();
            Checks.fine("none must lie", x, x.liarSet(0), 0);
            Checks.fine("one, who is called one", x, x.liarSet(1), 2);
            for (int off : OFF) {
                Sentences.refused(2, Rich::object, y -> y.liarSet(off));
            }
            Sentences.refused(8, Rich::object, y -> y.liarSet(2));
        });
    }

    private static void offers() {
        Sentences.promise(49, "KNOWN by a set of OFFERS (1 for OFFER 0 ..): a set of BOOKS (5).", () -> {
            LastPages x = Rich.object();
            int[] due = {0, 3, 2, 3};
            for (int set = 0; set < 4; set++) {
                Checks.fine("set " + set, x, x.known(set), due[set]);
            }
            LastPages none = new LastPages();
            Checks.fine("no offers", none, none.known(0), 0);
            for (int off : new int[] {4, 5, 7, 8, 64, -1, -4, Integer.MIN_VALUE, Integer.MAX_VALUE}) {
                Sentences.refused(5, Rich::object, y -> y.known(off));
            }
            Sentences.refused(5, LastPages::new, y -> y.known(1));
        });
        Sentences.promise(50, "BUY for so much (0 to 999): how many BOOKS are KNOWN (5).", () -> {
            LastPages x = Rich.object();
            Checks.fine("0", x, x.buy(0), 0);
            Checks.fine("1", x, x.buy(1), 0);
            Checks.fine("2", x, x.buy(2), 2);
            Checks.fine("999", x, x.buy(999), 2);
            for (int off : new int[] {-1, 1000, Integer.MIN_VALUE, Integer.MAX_VALUE}) {
                Sentences.refused(5, Rich::object, y -> y.buy(off));
                Sentences.refused(5, LastPages::new, y -> y.buy(off));
            }
        });
        Sentences.promise(51, "The set of BUY (5).", () -> {
            LastPages x = Rich.object();
            Checks.fine("0", x, x.buySet(0), 0);
            Checks.fine("1", x, x.buySet(1), 0);
            Checks.fine("2", x, x.buySet(2), 1);
            Checks.fine("999", x, x.buySet(999), 1);
            for (int off : new int[] {-1, 1000, Integer.MIN_VALUE, Integer.MAX_VALUE}) {
                Sentences.refused(5, Rich::object, y -> y.buySet(off));
                Sentences.refused(5, LastPages::new, y -> y.buySet(off));
            }
        });
        Sentences.promise(52, "CHEAPEST (8: they are not KNOWN by all OFFERS).", () -> {
            LastPages none = new LastPages();
            Checks.fine("no books", none, none.cheapest(), 0);
            LastPages x = Checks.with("state s;book ba from s misses 1;offer oa costs 3 tells ba;offer ob costs 0 tells ba;");
            Checks.fine("for nothing", x, x.cheapest(), 0);
            Sentences.refused(8, Rich::object, LastPages::cheapest);
        });
    }

    private static void watches() {
        Sentences.promise(53, "GUARD: COST (5; 8: it can't be).", () -> {
            LastPages x = Rich.object();
            Checks.fine("one each", x, x.guard(1), 3);
            LastPages none = new LastPages();
            Checks.fine("no books", none, none.guard(3), 0);
            for (int off : new int[] {0, 4, -1, Integer.MIN_VALUE, Integer.MAX_VALUE}) {
                Sentences.refused(5, Rich::object, y -> y.guard(off));
                Sentences.refused(5, LastPages::new, y -> y.guard(off));
            }
            Sentences.refused(8, Rich::object, y -> y.guard(2));
            Sentences.refused(8, Rich::object, y -> y.guard(3));
        });
        Sentences.promise(54, "The set of GUARD (5; 8).", () -> {
            LastPages x = Rich.object();
            Checks.fine("one each", x, x.guardSet(1), 3);
            LastPages none = new LastPages();
            Checks.fine("no books", none, none.guardSet(3), 0);
            for (int off : new int[] {0, 4, -1, Integer.MIN_VALUE, Integer.MAX_VALUE}) {
                Sentences.refused(5, Rich::object, y -> y.guardSet(off));
                Sentences.refused(5, LastPages::new, y -> y.guardSet(off));
            }
            Sentences.refused(8, Rich::object, y -> y.guardSet(2));
            Sentences.refused(8, Rich::object, y -> y.guardSet(3));
        });
        Sentences.promise(55, "The BOOK that the fewest WATCHES GUARD, of several the first (8: no BOOKS).", () -> {
            LastPages x = Rich.object();
            Checks.fine("one watch each: the first", x, x.barest(), 0);
            String books = "state s;book ba from s misses 1;book bb from s misses 1;book bc from s misses 1;";
            LastPages none = Checks.with(books);
            Checks.fine("no watches: the first", none, none.barest(), 0);
            LastPages y = Checks.with(books + "watch wa costs 1 guards ba;watch wb costs 0 guards ba;watch wc costs 1 "
                + "guards bb bc;");
            Checks.fine("two with one each: the first of them", y, y.barest(), 1);
            LastPages z = Checks.with(books + "watch wa costs 1 guards ba bb bc;watch wb costs 9 guards ba bb;");
            Checks.fine("the last", z, z.barest(), 2);
            StringBuilder eight = new StringBuilder("state s;book ba from s misses 1;");
            for (char c = 'a'; c < 'i'; c++) {
                eight.append("watch w").append(c).append(" costs 1 guards ba;");
            }
            LastPages w = Checks.with(eight.toString());
            Checks.fine("all eight guard the only one", w, w.barest(), 0);
            Sentences.refused(8, LastPages::new, LastPages::barest);
        });
    }

    private static void living() {
        Sentences.promise(56, "LIVED: how many STEPS were come to, MISSED ones, too (5; 8: no WEEKS).", () -> {
            LastPages x = Rich.object();
            Checks.fine("none missed", x, x.live(0), 3);
            Checks.weeks(x, "state ");
            x.weeks(0);
            Checks.fine("none at all", x, x.live(0), 0);
            Checks.weeks(x, "loose bc;loose bc;");
            Checks.fine("two missed", x, x.live(9999), 2);
            Checks.weeks(x, "loop 99;loop 99;stop;end;end;");
            Checks.fine("a stop is come to", x, x.live(0), 3);
            Checks.weeks(x, "loop 99;loop 99;loose bc;end;end;");
            Checks.fine("at most", x, x.live(0), 300);
            for (int off : new int[] {-1, 10000, Integer.MIN_VALUE, Integer.MAX_VALUE}) {
                Sentences.refused(5, Rich::object, y -> y.live(off));
                Sentences.refused(5, Rich::plain, y -> y.live(off));
            }
            Sentences.refused(8, Rich::plain, y -> y.live(0));
            Sentences.refused(8, LastPages::new, y -> y.live(9999));
        });
        Sentences.promise(57, "Of live() latest with STATUS 0, whatever came since, what 0: MISSED, 1: FINALES that "
            + "were BOUND (by bind and guess), "
            + "2: that were LOOSED, 3: BOUND by guess,", () -> {
            LastPages x = Rich.object();
            x.call(1, false);
            x.live(-1);
            x.mean(0, 5);
            x.shelf(0);
            x.live(0);
            x.back();
            x.back();
            int[] due = {0, 2, 1, 2, 0};
            for (int what = 0; what < 5; what++) {
                Checks.fine("what " + what, x, x.lived(what), due[what]);
            }
            Checks.weeks(x, "");
            x.live(0);
            for (int what = 0; what < 5; what++) {
                Checks.fine("of no steps, what " + what, x, x.lived(what), 0);
            }
        });
        Sentences.promise(57, "4: 1 if a STEP was left to be done (by the 300 alone, not by stop), else 0", () -> {
            leftToBeDone("loop 99;loose bc;loose bc;loose bc;end;loose bc;loose bc;", 0);
            leftToBeDone("loop 99;loose bc;loose bc;loose bc;end;loose bc;loose bc;loose bc;", 1);
            leftToBeDone("loop 99;loose bc;loose bc;loose bc;end;loose bc;stop;loose bc;", 0);
            leftToBeDone("stop;loose bc;", 0);
            leftToBeDone("loop 99;loop 99;loose bc;end;end;", 1);
            leftToBeDone("loop 99;loop 99;loop 99;end;end;end;", 1);
            leftToBeDone("loop 99;loose bc;loose bc;end;loop 99;loose bc;end;loose bc;", 0);
            leftToBeDone("loop 99;loose bc;loose bc;end;loop 99;loose bc;end;loose bc;loose bc;", 1);
            leftToBeDone("loop 99;loose bc;loose bc;end;loop 99;loose bc;end;loose bc;when done ba;end;", 1);
        });
        Sentences.promise(57, "(5; 8: there was none).", () -> {
            for (int off : new int[] {-1, 5, Integer.MIN_VALUE, Integer.MAX_VALUE}) {
                Sentences.refused(5, Rich::object, x -> x.lived(off));
                Sentences.refused(5, LastPages::new, x -> x.lived(off));
            }
            for (int what = 0; what < 5; what++) {
                int asked = what;
                Sentences.refused(8, LastPages::new, x -> x.lived(asked));
                Sentences.refused(8, Rich::plain, x -> x.lived(asked));
            }
        });
    }

    private static void leftToBeDone(String weeks, int due) {
        LastPages x = Checks.with(Rich.SHELF);
        Checks.weeks(x, weeks);
        x.live(0);
        Checks.fine(weeks, x, x.lived(4), due);
    }

    private static void mean() {
        Sentences.promise(58, "The FRACTION is the mean of how many BOOKS have a FINALE behind the WEEKS, by so many "
            + "seeds (1 to 20) from one on", () -> {
            LastPages x = Rich.object();
            Checks.fine("one seed", x, x.mean(0, 1));
            Checks.fraction("two", x, 2, 1);
            Checks.fine("twenty", x, x.mean(0, 20));
            Checks.fraction("two", x, 2, 1);
            // The first draw of a seed gives ba one of three; bb gets one behind the first of them alone.
            String shelf = "state s final;turn t odd 5;turn u;turn v;rule s t to s;rule s u to s;rule s v to s;"
                + "book ba from s misses 1;book bb from s misses 1;finale fa t;finale fb u;finale fc v;";
            LastPages y = Checks.with(shelf);
            Checks.weeks(y, "guess ba;when odd ba = 5;bind bb fb;end;");
            for (int many = 1; many <= 20; many++) {
                for (int seed : new int[] {0, 1, 5000, 10000 - many}) {
                    int sum = 0;
                    for (int i = 0; i < many; i++) {
                        sum += ((seed + i) * 2971 + 10687) % 65536 / 8 % 3 == 0 ? 2 : 1;
                    }
                    Checks.fine("mean", y, y.mean(seed, many));
                    Checks.due("of " + many + " from " + seed + " on", y.top() * many, sum * y.bottom());
                    BigInteger top = BigInteger.valueOf(y.top());
                    Checks.due("no common divisor", top.gcd(BigInteger.valueOf(y.bottom())).intValue(), 1);
                }
            }
            LastPages none = new LastPages();
            none.weeks(0);
            Checks.fine("no books", none, none.mean(0, 20));
            Checks.fraction("none", none, 0, 1);
        });
        Sentences.promise(58, "(all stays as it is)", () -> {
            LastPages x = Rich.object();
            Checks.weeks(x, "state ");
            x.weeks(0);
            Checks.feed(x, "loose bb;call ra;call rb;guess ba;");
            x.weeks(34);
            x.chance(1, 1, 0);
            LastPages y = Rich.object();
            Checks.weeks(y, "state ");
            y.weeks(0);
            Checks.feed(y, "loose bb;call ra;call rb;guess ba;");
            y.weeks(34);
            Checks.fine("mean", y, y.mean(7, 20));
            Checks.fine("mean", y, y.mean(7, 19));
            Checks.fine("the fraction is another one", y, y.chance(1, 1, 0));
            Checks.same("all", Seen.of(y), Seen.of(x));
        });
        Sentences.promise(58, "(5: the last above 9,999, too; 8).", () -> {
            LastPages x = Rich.object();
            Checks.fine("the last is 9,999", x, x.mean(9999, 1));
            Checks.fine("the last is 9,999", x, x.mean(9980, 20));
            int[][] off = {{-1, 1}, {-1, 2}, {0, 0}, {0, -1}, {0, 21}, {9999, 2}, {9981, 20}, {10000, 1}, {10000, 0},
                {Integer.MAX_VALUE, 20}, {Integer.MAX_VALUE, Integer.MAX_VALUE}, {Integer.MIN_VALUE, 1}, {5, Integer.MIN_VALUE}};
            for (int[] o : off) {
                Sentences.denied(5, Rich::object, y -> y.mean(o[0], o[1]));
                Sentences.denied(5, Rich::plain, y -> y.mean(o[0], o[1]));
            }
            Sentences.denied(8, Rich::plain, y -> y.mean(0, 1));
            Sentences.denied(8, LastPages::new, y -> y.mean(9980, 20));
        });
    }

    private static void marks() {
        Sentences.promise(59, "A MARK more: how many there are (7).", () -> {
            LastPages x = new LastPages();
            for (int i = 1; i <= 3; i++) {
                Checks.fine("mark", x, x.mark(), i);
            }
            Sentences.refused(7, Rich::marked, LastPages::mark);
        });
        Sentences.promise(60, "All is taken back to the latest MARK: how many there are left (8).", () -> {
            LastPages x = Rich.marked();
            x.strange(0, 9);
            for (int i = 2; i >= 0; i--) {
                Checks.fine("back", x, x.back(), i);
                Checks.fine("odd", x, x.odd(0), 1);
            }
            Sentences.refused(8, LastPages::new, LastPages::back);
            Sentences.refused(8, Rich::plain, LastPages::back);
        });
    }
}
