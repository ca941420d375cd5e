/** The sentences of the Terms on pages, endings and finales, offers and watches: each with its bounds. */
final class BoundsOfStories {
    private BoundsOfStories() { }

    static void run() {
        pages();
        endings();
        binding();
        best();
        next();
        chance();
        matching();
        clash();
        liars();
        finish();
        known();
        buying();
        guarding();
    }

    private static void pages() {
        String text = "state s;state p;state q;turn t;turn u;rule s t to p;rule p t to q;rule q t to s;rule q u to q;";
        Sentences.terms("A BOOK's PAGES are gone by from its STATE on, PAGE by PAGE, by RULES;", () -> {
            LastPages x = Checks.with(text + "book k from s misses 1 t t u u t t;book l from q misses 1 u t;book m "
                + "from p misses 1;");
            Checks.fine("six pages", x, x.book(0, 3), 1);
            Checks.fine("two pages", x, x.book(1, 3), 0);
            Checks.fine("no pages", x, x.book(2, 3), 1);
        });
        Sentences.terms("it BREAKS at the first PAGE for which there is no RULE;", () -> {
            LastPages x = Checks.with(text + "book k from s misses 1 u t u;book l from s misses 1 t t t t t t t t t u;"
                + "book m from s misses 1 t u u;book n from s misses 1;book o from s misses 1 t t t t t t t t t t;");
            int[] due = {0, 9, 1};
            for (int book = 0; book < due.length; book++) {
                Checks.fine("book " + book, x, x.book(book, 4), due[book]);
            }
            Checks.refused("no pages, no rules needed", x, x.book(3, 4), 8);
            Checks.refused("ten pages and a rule for each", x, x.book(4, 4), 8);
        });
        Sentences.terms("its PLACE is the STATE behind all its PAGES (none, if it BREAKS).", () -> {
            LastPages x = Checks.with(text + "book k from q misses 1;book l from s misses 1 t t t t t t t t t t;"
                + "book m from s misses 1 t t t t t t t t t u;book n from s misses 1 u t t;");
            Checks.fine("behind none", x, x.book(0, 3), 2);
            Checks.fine("behind ten", x, x.book(1, 3), 1);
            Checks.refused("the tenth breaks", x, x.book(2, 3), 8);
            Checks.refused("the first breaks, the others would not", x, x.book(3, 3), 8);
        });
    }

    private static void endings() {
        Sentences.terms("An ENDING of a BOOK: as many TURNS as it MISSES that lead by RULES from its PLACE to a FINAL "
            + "STATE,", () -> {
            LastPages x = Checks.with("state s final;state p;state q final;turn t;turn u;rule s t to p;rule p t to q;"
                + "rule q u to q;"
                + "book k from s misses 1;book l from s misses 2;book m from s misses 3;book n from s misses 6;book o "
                + "from p misses 1;"
                + "book w from s misses 2 u;");
            long[] due = {0, 1, 1, 1, 1, 0};
            for (int book = 0; book < due.length; book++) {
                Checks.fine("book " + book, x, x.endings(book), due[book]);
            }
            LastPages y = Checks.with(Shelves.free(8, "book k from s misses 6;book l from s misses 1;"));
            Checks.fine("all that there can be", y, y.endings(0), 262144);
            Checks.fine("of one turn", y, y.endings(1), 8);
            y.close(0, false);
            Checks.fine("no final state", y, y.endings(0), 0);
        });
        Sentences.terms("and, if a READER is not called a LIAR, keep to the HINTS by him of this BOOK.", () -> {
            LastPages x = Checks.with(Shelves.free(3, "book k from s misses 2;book l from s misses 2;reader r;reader q;"
                + "hint k at 1 is a by r;hint k at 2 is b by r;hint k at 2 is c by q;hint l at 2 is c by q;"));
            Checks.fine("hints that can't both be", x, x.endings(0), 0);
            Checks.fine("of the other book", x, x.endings(1), 3);
            x.call(1, true);
            Checks.fine("r alone is believed", x, x.endings(0), 1);
            Checks.fine("of the other book", x, x.endings(1), 9);
            x.call(1, false);
            x.call(0, true);
            Checks.fine("q alone is believed", x, x.endings(0), 3);
            x.call(1, true);
            Checks.fine("nobody is believed", x, x.endings(0), 9);
        });
    }

    private static void binding() {
        Sentences.terms("A FINALE FITS a BOOK, if it is an ENDING of it.", () -> {
            LastPages x = Checks.with(Shelves.free(2, "book k from s misses 2;book l from s misses 1;book m from s misses 6;"
                + "finale f a;finale g a b;finale h a b a;finale i a b a b a b;reader r;hint k at 2 is b by r;finale j b a;"));
            int[] due = {2, 1, 8};
            for (int book = 0; book < 3; book++) {
                for (int finale = 0; finale < 5; finale++) {
                    Checks.fine("book " + book + ", finale " + finale, x, x.fits(book, finale), due[book] >> finale & 1);
                }
            }
        });
        Sentences.terms("BIND a FINALE to a BOOK: it can't be, if the BOOK has one,", () -> {
            LastPages x = Shelves.fits(2, 3);
            Checks.fine("the first", x, x.bind(0, 0));
            Checks.refused("another one", x, x.bind(0, 1), 9);
            Checks.refused("the same", x, x.bind(0, 0), 9);
            Checks.fine("it has the first", x, x.book(0, 5), 0);
        });
        Sentences.terms("if the FINALE is in another BOOK,", () -> {
            LastPages x = Shelves.fits(2, 3, 3);
            Checks.fine("the first", x, x.bind(0, 1));
            Checks.refused("in the other", x, x.bind(1, 1), 9);
            Checks.fine("another finale", x, x.bind(1, 0));
        });
        Sentences.terms("or if it does not FIT.", () -> {
            LastPages x = Shelves.fits(2, 1);
            Checks.refused("it does not fit", x, x.bind(0, 1), 9);
            Checks.fine("it fits", x, x.bind(0, 0));
        });
        Sentences.terms("LOOSE a BOOK: its FINALE is out again.", () -> {
            LastPages x = Shelves.fits(1, 1, 1);
            x.bind(0, 0);
            Checks.fine("out", x, x.loose(0), 0);
            Checks.refused("out already", x, x.loose(0), 8);
            Checks.fine("free for the other", x, x.bind(1, 0));
        });
        Sentences.terms("CALL a READER a LIAR, or believe him.", () -> {
            LastPages x = Checks.with("reader a;reader b;reader c;reader d;reader e;reader f;");
            Checks.fine("the first", x, x.call(0, true));
            Checks.fine("the last", x, x.call(5, true));
            Checks.fine("both", x, x.many(11), 33);
            Checks.fine("the first no more", x, x.call(0, false));
            Checks.fine("the last alone", x, x.many(11), 32);
        });
    }

    private static void best() {
        Sentences.terms("ODDNESS of an ENDING: ODD of all its TURNS together.", () -> {
            LastPages x = Checks.with(Shelves.free(8, "book k from s misses 6;reader r;hint k at 3 is h by r;"
                + "finale fh h h h h h h;finale fa a;"));
            Checks.fine("the least", x, x.best(0), 7);
            Checks.fine("of nothing odd", x, x.oddness(1), 0);
            x.strange(7, 9);
            Checks.fine("the greatest", x, x.oddness(0), 54);
        });
        Sentences.terms("BEST: the ENDING with the least ODDNESS, of several the first by TURNS.", () -> {
            // Endings: a b and b a, both of three; c c, of as much as c is odd twice.
            LastPages x = Checks.with("state s;state p;state q;state r;state e final;turn a odd 1;turn b odd 2;turn c odd 2;"
                + "rule s a to p;rule p b to e;rule s b to q;rule q a to e;rule s c to r;rule r c to e;book k from s misses 2;");
            Checks.fine("three", x, x.best(0), 3);
            Checks.fine("a, then b", x, x.bestAt(0, 1), 0);
            Checks.fine("a, then b", x, x.bestAt(0, 2), 1);
            x.strange(2, 1);
            Checks.fine("two", x, x.best(0), 2);
            Checks.fine("c, then c", x, x.bestAt(0, 1), 2);
            x.lead(1, 1, -1);
            x.strange(2, 9);
            Checks.fine("b, then a", x, x.bestAt(0, 1), 1);
            LastPages y = Checks.with("state s;state p;state q;state e final;turn a;turn b;rule s b to p;rule p a to "
                + "p;rule p b to q;"
                + "rule q a to e;rule q b to q;book k from s misses 4;");
            // b a b a, b b b a: both of four.
            Checks.fine("two endings", y, y.endings(0), 2);
            int[] due = {1, 0, 1, 0};
            for (int place = 1; place <= 4; place++) {
                Checks.fine("place " + place, y, y.bestAt(0, place), due[place - 1]);
            }
        });
    }

    private static void next() {
        Sentences.terms("NEXT: the place of a BOOK at which the greatest number of ENDINGS that have one and the same "
            + "TURN there is the least,", () -> {
            // From s any of two, then one, then any of three.
            LastPages x = Checks.with("state s;state p;state q;state e final;turn a;turn b;turn c;rule s a to p;rule "
                + "s b to p;rule p a to q;"
                + "rule q a to e;rule q b to e;rule q c to e;book k from s misses 3;");
            Checks.fine("the last place", x, x.next(0), 3);
            x.lead(2, 2, -1);
            x.lead(0, 2, 1);
            Checks.fine("the first place", x, x.next(0), 1);
            x.lead(0, 2, -1);
            x.lead(0, 1, -1);
            x.lead(2, 1, -1);
            x.lead(1, 1, 2);
            Checks.fine("the middle", x, x.next(0), 2);
        });
        Sentences.terms("of several the first (none, if there are not two ENDINGS).", () -> {
            LastPages x = Checks.with(Shelves.free(2, "book k from s misses 6;book l from s misses 1;reader r;hint l "
                + "at 1 is a by r;"));
            Checks.fine("of six", x, x.next(0), 1);
            Checks.refused("one ending", x, x.next(1), 8);
            x.call(0, true);
            Checks.fine("two endings", x, x.next(1), 1);
            x.close(0, false);
            Checks.refused("no ending", x, x.next(1), 8);
        });
    }

    private static void chance() {
        Sentences.terms("CHANCE: the part of all ENDINGS that have a TURN at a place.", () -> {
            LastPages x = Checks.with(Shelves.free(4, "book k from s misses 6;reader r;hint k at 6 is d by r;"));
            Checks.fine("a quarter", x, x.chance(0, 1, 3));
            Checks.fraction("256 of 1,024", x, 1, 4);
            Checks.fine("all", x, x.chance(0, 6, 3));
            Checks.fraction("all", x, 1, 1);
            Checks.fine("none", x, x.chance(0, 6, 0));
            Checks.fraction("none", x, 0, 1);
        });
    }

    private static void matchAs(LastPages x, int match, long ways) {
        Checks.fine("match", x, x.match(), match);
        Checks.fine("ways", x, x.ways(), ways);
    }

    private static void matching() {
        Sentences.terms("MATCH: the most BOOKS that can have a FINALE each at once that FITS, no FINALE in two", () -> {
            Checks.due("no books", Shelves.fits(8).match(), 0);
            Checks.due("no finales", Shelves.fits(0, 0).match(), 0);
            Checks.due("none fits", Shelves.fits(8, 0, 0, 0, 0, 0, 0).match(), 0);
            Checks.due("all", Shelves.fits(8, 255, 255, 255, 255, 255, 255).match(), 6);
            Checks.due("just enough", Shelves.fits(6, 63, 63, 63, 63, 63, 63).match(), 6);
            Checks.due("one finale too few", Shelves.fits(5, 31, 31, 31, 31, 31, 31).match(), 5);
            Checks.due("the first must give way", Shelves.fits(3, 7, 3, 1).match(), 3);
            Checks.due("two of one alone", Shelves.fits(3, 1, 1, 6).match(), 2);
        });
        Sentences.terms("(what is BOUND is not minded).", () -> {
            LastPages x = Shelves.fits(2, 3, 1);
            Checks.fine("bound against it", x, x.bind(0, 0));
            matchAs(x, 2, 1);
        });
        Sentences.terms("WAYS: in how many ways all BOOKS can have one.", () -> {
            matchAs(Shelves.fits(8), 0, 1);
            matchAs(Shelves.fits(0, 0), 0, 0);
            matchAs(Shelves.fits(8, 255, 255, 255, 255, 255, 255), 6, 20160);
            matchAs(Shelves.fits(6, 63, 63, 63, 63, 63, 63), 6, 720);
            matchAs(Shelves.fits(5, 31, 31, 31, 31, 31, 31), 5, 0);
            matchAs(Shelves.fits(1, 1), 1, 1);
            matchAs(Shelves.fits(3, 7, 3, 1), 3, 1);
        });
    }

    private static void clashAs(LastPages x, int many, int set) {
        if (many < 0) {
            Checks.refused("clash", x, x.clash(), 8);
            Checks.refused("clashSet", x, x.clashSet(), 8);
        } else {
            Checks.fine("clash", x, x.clash(), many);
            Checks.fine("clashSet", x, x.clashSet(), set);
        }
    }

    private static void clash() {
        Sentences.terms("CLASH: the fewest BOOKS for which, together, fewer FINALES FIT than they are:", () -> {
            clashAs(Shelves.fits(8), -1, 0);
            clashAs(Shelves.fits(2, 3, 3), -1, 0);
            clashAs(Shelves.fits(6, 63, 63, 63, 63, 63, 63), -1, 0);
            clashAs(Shelves.fits(5, 31, 31, 31, 31, 31, 31), 6, 63);
            clashAs(Shelves.fits(0, 0), 1, 1);
            clashAs(Shelves.fits(1, 1, 1, 0), 1, 4);
            clashAs(Shelves.fits(4, 3, 12, 3, 12, 3, 15), 3, 21);
        });
        Sentences.terms("of several sets the least as a number (1 for BOOK 0 ..).", () -> {
            clashAs(Shelves.fits(3, 1, 4, 1, 4), 2, 5);
            clashAs(Shelves.fits(3, 7, 4, 1, 4, 1), 2, 10);
            clashAs(Shelves.fits(1, 1, 0, 0), 1, 2);
            clashAs(Shelves.fits(8, 1, 2, 4, 8, 16, 0), 1, 32);
        });
    }

    private static void liarsAs(String hints, int many, int set) {
        LastPages x = Checks.with("state s final;turn t;turn u;turn v;rule s t to s;rule s u to s;book k from s misses 2;"
            + "book l from s misses 1;reader ra;reader rb;reader rc;reader rd;reader re;reader rf;" + hints);
        Checks.fine("liars by " + hints, x, x.liars(0), many);
        Checks.fine("liarSet by " + hints, x, x.liarSet(0), set);
        x.call(0, true);
        x.call(2, true);
        x.call(5, true);
        Checks.fine("some of them called liars, by " + hints, x, x.liarSet(0), set);
    }

    private static void liars() {
        Sentences.terms("LIARS of a BOOK: the fewest READERS (called LIARS or not) without whose HINTS it has an ENDING:", () -> {
            liarsAs("", 0, 0);
            liarsAs("hint k at 1 is t by ra;hint k at 2 is u by rb;", 0, 0);
            liarsAs("hint l at 1 is v by ra;", 0, 0);
            liarsAs("hint k at 1 is v by rf;", 1, 32);
            liarsAs("hint k at 1 is t by rf;hint k at 1 is u by rf;", 1, 32);
            liarsAs("hint k at 1 is v by ra;hint k at 2 is v by rb;hint k at 1 is v by rc;hint k at 2 is v by rd;"
                + "hint k at 1 is v by re;hint k at 2 is v by rf;", 6, 63);
            liarsAs("hint k at 1 is t by ra;hint k at 1 is t by rb;hint k at 1 is u by rc;", 1, 4);
        });
        Sentences.terms("it has an ENDING: of several sets the least as a number.", () -> {
            liarsAs("hint k at 1 is t by rb;hint k at 1 is u by rf;", 1, 2);
            liarsAs("hint k at 1 is t by ra;hint k at 1 is u by rf;hint k at 2 is t by rb;hint k at 2 is u by rc;", 2, 3);
        });
    }

    private static void finishAs(LastPages x, int many, int set) {
        if (many < 0) {
            Checks.refused("finish", x, x.finish(), 8);
            Checks.refused("finishSet", x, x.finishSet(), 8);
        } else {
            Checks.fine("finish", x, x.finish(), many);
            Checks.fine("finishSet", x, x.finishSet(), set);
        }
    }

    private static void finish() {
        Sentences.terms("FINISH: the fewest FINALES, so that each BOOK has one of them that FITS (one may serve "
            + "several);", () -> {
            finishAs(Shelves.fits(8), 0, 0);
            finishAs(Shelves.fits(8, 128), 1, 128);
            finishAs(Shelves.fits(8, 128, 192, 160, 144, 136, 129), 1, 128);
            finishAs(Shelves.fits(8, 4, 8, 16, 32, 64, 128), 6, 252);
            finishAs(Shelves.fits(3, 5, 6), 1, 4);
            finishAs(Shelves.fits(8, 255, 0), -1, 0);
            finishAs(Shelves.fits(0, 0), -1, 0);
        });
        Sentences.terms("likewise.", () -> {
            finishAs(Shelves.fits(8, 192), 1, 64);
            finishAs(Shelves.fits(4, 5, 10), 2, 3);
            finishAs(Shelves.fits(4, 12, 10), 1, 8);
        });
    }

    private static final String BOOKS = "state s;book ba from s misses 1;book bb from s misses 1;book bc from s misses 1;"
        + "book bd from s misses 1;book be from s misses 1;book bf from s misses 1;";

    private static void known() {
        Sentences.terms("KNOWN by a set of OFFERS: BOOKS that they TELL,", () -> {
            LastPages x = Checks.with(BOOKS + "offer oa costs 1 tells ba;offer ob costs 1 tells;offer oc costs 1 tells bf be;"
                + "offer od costs 1 tells;offer oe costs 1 tells;offer of costs 1 tells ba bb;");
            Checks.fine("by none", x, x.known(0), 0);
            Checks.fine("by one of nothing", x, x.known(2), 0);
            Checks.fine("by the last", x, x.known(32), 3);
            Checks.fine("by all", x, x.known(63), 51);
        });
        Sentences.terms("and all that FOLLOWS of these, again and again.", () -> {
            String chain = BOOKS + "follows be bf;follows bd be;follows bc bd;follows bb bc;follows ba bb;";
            LastPages x = Checks.with(chain + "offer oa costs 1 tells ba;offer ob costs 1 tells bf;");
            Checks.fine("five times", x, x.known(1), 63);
            Checks.fine("nothing of the last", x, x.known(2), 32);
            LastPages y = Checks.with(chain + "follows bf ba;offer ob costs 1 tells bd;");
            Checks.fine("all round", y, y.known(1), 63);
            LastPages z = Checks.with(BOOKS + "follows ba bb;follows bb bc;follows bc bd;follows bd be;follows be bf;"
                + "offer o costs 1 tells ba;");
            Checks.fine("told the other way round", z, z.known(1), 63);
        });
    }

    private static void buyAs(LastPages x, int much, int many, int set) {
        Checks.fine("buy " + much, x, x.buy(much), many);
        Checks.fine("buySet " + much, x, x.buySet(much), set);
    }

    private static void buying() {
        Sentences.terms("BUY for so much: the set of OFFERS that COST no more together by which the most BOOKS are "
            + "KNOWN;", () -> {
            LastPages x = Checks.with(BOOKS + "offer oa costs 5 tells ba;offer ob costs 6 tells bb bc;follows ba bd;"
                + "follows bd be;");
            buyAs(x, 0, 0, 0);
            buyAs(x, 4, 0, 0);
            buyAs(x, 5, 3, 1);
            buyAs(x, 10, 3, 1);
            buyAs(x, 11, 5, 3);
            buyAs(x, 999, 5, 3);
            buyAs(Checks.with(BOOKS), 999, 0, 0);
            buyAs(Checks.with(""), 0, 0, 0);
            LastPages y = Checks.with(BOOKS + "offer oa costs 99 tells ba;offer ob costs 99 tells bb;offer oc costs 99 tells bc;"
                + "offer od costs 99 tells bd;offer oe costs 99 tells be;offer of costs 99 tells bf;");
            buyAs(y, 593, 5, 31);
            buyAs(y, 594, 6, 63);
        });
        Sentences.terms("of several the cheapest,", () -> {
            LastPages x = Checks.with(BOOKS + "offer oa costs 5 tells ba bb;offer ob costs 2 tells ba;offer oc costs "
                + "2 tells bb;");
            buyAs(x, 9, 2, 6);
            buyAs(x, 3, 1, 2);
        });
        Sentences.terms("then the fewest OFFERS,", () -> {
            LastPages x = Checks.with(BOOKS + "offer oa costs 2 tells ba;offer ob costs 2 tells bb;offer oc costs 4 "
                + "tells ba bb;offer od costs 0 tells;");
            buyAs(x, 9, 2, 4);
        });
        Sentences.terms("then the fewest OFFERS, then the least as a number.", () -> {
            LastPages x = Checks.with(BOOKS + "offer oa costs 3 tells;offer ob costs 2 tells bf;offer oc costs 2 "
                + "tells ba;offer od costs 2 tells bc;");
            buyAs(x, 2, 1, 2);
            buyAs(x, 4, 2, 6);
        });
        Sentences.terms("CHEAPEST: the least COST by which all BOOKS are KNOWN.", () -> {
            Checks.due("no books", Checks.with("").cheapest(), 0);
            LastPages x = Checks.with("state s;book ba from s misses 1;book bb from s misses 1;offer oa costs 9 tells "
                + "ba bb;offer ob costs 4 tells ba;"
                + "offer oc costs 4 tells bb;");
            Checks.fine("by two", x, x.cheapest(), 8);
            LastPages y = Checks.with("state s;book ba from s misses 1;book bb from s misses 1;offer oa costs 0 tells "
                + "bb;follows bb ba;");
            Checks.fine("for nothing", y, y.cheapest(), 0);
            LastPages z = Checks.with("state s;book ba from s misses 1;book bb from s misses 1;offer oa costs 0 tells "
                + "bb;follows ba bb;");
            Checks.refused("one can't be known", z, z.cheapest(), 8);
            LastPages w = Checks.with("state s;book ba from s misses 1;");
            Checks.refused("no offers", w, w.cheapest(), 8);
            LastPages v = Checks.with(BOOKS + "offer oa costs 99 tells ba;offer ob costs 99 tells bb;offer oc costs 99 tells bc;"
                + "offer od costs 99 tells bd;offer oe costs 99 tells be;offer of costs 99 tells bf;");
            Checks.fine("as dear as can be", v, v.cheapest(), 594);
        });
    }

    private static void guardAs(LastPages x, int many, int cost, int set) {
        Checks.fine("guard " + many, x, x.guard(many), cost);
        Checks.fine("guardSet " + many, x, x.guardSet(many), set);
    }

    private static void guarding() {
        String two = "state s;book ba from s misses 1;book bb from s misses 1;";
        Sentences.terms("GUARD g (1 to 3): the least COST of WATCHES, so that each BOOK is GUARDED by g of them at "
            + "least;", () -> {
            LastPages x = Checks.with(two + "watch wa costs 1 guards ba;watch wb costs 2 guards bb ba;watch wc costs "
                + "4 guards bb ba;watch wd costs 90 guards bb;");
            guardAs(x, 1, 2, 2);
            guardAs(x, 2, 6, 6);
            guardAs(x, 3, 97, 15);
            Checks.refused("0", x, x.guard(0), 5);
            Checks.refused("4", x, x.guard(4), 5);
            LastPages y = Checks.with(two + "watch wa costs 1 guards ba bb;watch wb costs 1 guards ba bb;");
            guardAs(y, 2, 2, 3);
            Checks.refused("one too few", y, y.guard(3), 8);
            Checks.refused("one too few", y, y.guardSet(3), 8);
            guardAs(Checks.with(""), 3, 0, 0);
            LastPages z = Checks.with(two);
            Checks.refused("no watches", z, z.guard(1), 8);
            LastPages w = Checks.with(BOOKS + "watch wa costs 99 guards ba;watch wb costs 99 guards bb;watch wc costs "
                + "99 guards bc;"
                + "watch wd costs 99 guards bd;watch we costs 99 guards be;watch wf costs 99 guards bf;watch wg costs "
                + "98 guards bf;");
            guardAs(w, 1, 593, 95);
        });
        Sentences.terms("of several sets the fewest,", () -> {
            LastPages x = Checks.with(two + "watch wa costs 2 guards ba;watch wb costs 2 guards bb;watch wc costs 4 "
                + "guards ba bb;watch wd costs 0 guards;");
            guardAs(x, 1, 4, 4);
        });
        Sentences.terms("of several sets the fewest, then the least as a number.", () -> {
            LastPages x = Checks.with(two + "watch wa costs 0 guards;watch wb costs 3 guards ba bb;watch wc costs 3 "
                + "guards ba bb;watch wd costs 3 guards ba bb;");
            guardAs(x, 1, 3, 2);
            guardAs(x, 2, 6, 6);
            guardAs(x, 3, 9, 14);
            LastPages y = Checks.with("state s;book ba from s misses 1;watch wa costs 9 guards;watch wb costs 9 "
                + "guards;watch wc costs 9 guards;"
                + "watch wd costs 9 guards;watch we costs 9 guards;watch wf costs 9 guards;watch wg costs 9 guards;"
                + "watch wh costs 9 guards ba;");
            guardAs(y, 1, 9, 128);
        });
    }
}
