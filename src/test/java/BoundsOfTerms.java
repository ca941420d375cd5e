/** The sentences of the Terms that tell what a shelf's text is: each with its bounds. */
final class BoundsOfTerms {
    /** One of each kind of thing, and a second book. */
    private static final String HEAD = "state s;turn t;book b from s misses 3;book c from s misses 1;finale f t;reader r;"
        + "offer o costs 1 tells b;watch w costs 1 guards b;";
    private static final String WORDS = "state, final, turn, odd, rule, to, book, from, misses, finale, hint, at, is, "
        + "by, reader, "
        + "offer, costs, tells, watch, guards, follows, bind, loose, call, guess, when, done, left, loop, end, stop";

    private BoundsOfTerms() { }

    static void run() {
        trays();
        tokens();
        parts();
        names();
        statesAndTurns();
        booksAndFinales();
        readersAndHints();
        offersAndWatches();
        Sentences.terms("All are numbered as they stand;", BoundsOfTerms::numbered);
        Sentences.terms("what a PART names must be told ahead.", BoundsOfTerms::toldAhead);
        faults();
        Sentences.terms("A SHELF that is taken is there in place of that ahead; nothing is BOUND, all READERS are believed, "
            + "there are no WEEKS.", BoundsOfTerms::taken);
    }

    private static void right(String text) {
        Checks.rightShelf(text);
    }

    private static void fault(String head, String text, int kind, int at) {
        Checks.faultyShelf("fault", head, text, kind, at);
    }

    /** The first part may be told so often behind a head, with another letter for each #, and not once more. */
    private static void limit(String head, String part, int most) {
        StringBuilder full = new StringBuilder(head);
        for (int i = 0; i < most; i++) {
            full.append(part.replace('#', (char) ('a' + i)));
        }
        right(full.toString());
        fault(full.toString(), part.replace('#', 'z'), 6, 0);
        fault(full.toString(), part.substring(0, part.indexOf(' ')), 6, 0);
    }

    private static void cut(int sort, long v, long want) {
        LastPages x = new LastPages();
        x.tray(0, sort, 1);
        Checks.fine("write " + v + " in sort " + sort, x, x.write(0, 0, v));
        Checks.fine("read " + v + " in sort " + sort, x, x.read(0, 0), want);
    }

    private static void trays() {
        Sentences.terms("TRAYS, 0 to 3, are MISSING at first,", () -> {
            LastPages x = new LastPages();
            for (int tray = 0; tray <= 3; tray++) {
                Checks.refused("missing " + tray, x, x.read(tray, 0), 3);
            }
            Checks.refused("one below", x, x.read(-1, 0), 1);
            Checks.refused("one above", x, x.read(4, 0), 1);
            Checks.fine("the first", x, x.tray(0, 0, 1));
            Checks.fine("the last", x, x.tray(3, 0, 1));
            Checks.refused("the others are still missing", x, x.read(1, 0), 3);
        });
        Sentences.terms("or rows of numbers of 8 bits (sort 0),", () -> wraps(0, 8));
        Sentences.terms("16 (1),", () -> wraps(1, 16));
        Sentences.terms("32 (2)", () -> wraps(2, 32));
        Sentences.terms("or 64 (3),", () -> {
            cut(3, Long.MAX_VALUE, Long.MAX_VALUE);
            cut(3, Long.MIN_VALUE, Long.MIN_VALUE);
            cut(3, 1L << 32, 1L << 32);
            LastPages x = new LastPages();
            Checks.refused("a sort more", x, x.tray(0, 4, 1), 1);
        });
        Sentences.terms("with sign;", () -> {
            cut(0, 0x80, -0x80);
            cut(1, 0x8000, -0x8000);
            cut(2, 0x80000000L, -0x80000000L);
            for (int sort = 0; sort < 4; sort++) {
                cut(sort, -1, -1);
            }
        });
        Sentences.terms("what is written is cut to these.", () -> {
            cut(0, 0x123456789abcdef0L, -0x10);
            cut(1, 0x123456789abcdef0L, 0xdef0 - 0x10000);
            cut(2, 0x123456789abcdef0L, 0x9abcdef0L - 0x100000000L);
            cut(3, 0x123456789abcdef0L, 0x123456789abcdef0L);
        });
    }

    private static void wraps(int sort, int bits) {
        long most = (1L << bits - 1) - 1;
        long least = -most - 1;
        cut(sort, most, most);
        cut(sort, most + 1, least);
        cut(sort, least, least);
        cut(sort, least - 1, most);
        cut(sort, 1L << bits, 0);
        cut(sort, Long.MIN_VALUE, 0);
        cut(sort, Long.MAX_VALUE, -1);
    }

    private static void tokens() {
        Sentences.terms("A SHELF is a TEXT of at most 900 bytes.", () -> {
            LastPages x = new LastPages();
            String text = "state s;" + " ".repeat(884) + "state z;";
            Checks.fine("900 bytes, of which the last counts", x, Checks.shelf(x, text), 0);
            Checks.fine("both states", x, x.many(0), 2);
            Checks.feed(x, text);
            Checks.refused("899, so that the last part breaks off", x, x.shelf(899), 10);
            Checks.due("at the end", x.fault(1), 899);
            Checks.feed(x, text);
            Checks.refused("901", x, x.shelf(901), 5);
        });
        Sentences.terms("TOKENS, as long as they go,", () -> {
            fault("", "statex;", 2, 0);
            fault("", "state statex", 2, 12);
            right("state statex;");
            fault("", "turn t odd 12;", 4, 11);
            right("turn t odd 0009;");
        });
        Sentences.terms("between them blanks (10, 32):", () -> {
            right("\n \nstate \n s\n\n  ;\n");
            right("turn t odd9;state s;book b from s misses1t;");
            for (int other : new int[] {0, 9, 11, 12, 13, 31, 33, 127, 128, 138, 160, 255}) {
                fault("", "state s" + (char) other + ";", 1, 7);
            }
        });
        Sentences.terms("WORDS (small letters),", () -> {
            right("state a;state z;state az;");
            for (char other : new char[] {'a' - 1, 'z' + 1, 'A', 'Z', '_', '-', 0xe1, 0xfa}) {
                fault("", "state " + other + ";", 1, 6);
            }
        });
        Sentences.terms("NUMBERS (1 to 4 digits),", () -> {
            right("turn t odd 0;turn u odd 9;turn v odd 09;turn w odd 009;turn x odd 0009;");
            fault("", "turn t odd 00009;", 1, 11);
            fault("", "turn t odd " + (char) ('0' - 1) + ";", 1, 11);
            fault("", "turn t odd " + (char) ('9' + 1) + ";", 1, 11);
            fault("", "turn t odd -1;", 1, 11);
        });
        Sentences.terms("SIGNS ; < > =", () -> {
            right("state s;");
            for (char sign : new char[] {'<', '>', '='}) {
                fault("", "state s" + sign, 2, 7);
            }
            for (char other : new char[] {';' - 1, '>' + 1, ',', '.', '!', '{', '['}) {
                fault("", "state s" + other, 1, 7);
            }
        });
    }

    /** A part that is right, and which has a fault where it breaks off, be it by the end or by what can't stand there. */
    private static void part(String quote, String... forms) {
        Sentences.terms(quote, () -> {
            for (String form : forms) {
                right(HEAD + form);
                String[] token = form.split(" ");
                StringBuilder ahead = new StringBuilder(token[0]);
                for (int i = 1; i < token.length; i++) {
                    fault(HEAD, ahead.toString(), 2, ahead.length());
                    fault(HEAD, ahead + " \n", 2, ahead.length() + 2);
                    fault(HEAD, ahead + " = ;", 2, ahead.length() + 1);
                    fault(HEAD, ahead + " stop ;", 2, ahead.length() + 1);
                    fault(HEAD, ahead + " ? ;", 1, ahead.length() + 1);
                    ahead.append(' ').append(token[i]);
                }
            }
        });
    }

    private static void parts() {
        Sentences.terms("SHELF: {PART}.", () -> {
            LastPages x = Checks.with(Rich.SHELF);
            Checks.fine("no part", x, Checks.shelf(x, ""), 0);
            Checks.fine("a shelf of nothing", x, x.many(0), 0);
            right(" \n ");
            fault("", ";", 2, 0);
            fault("state s;", ";", 2, 0);
            fault("", "s", 2, 0);
            fault("", "7", 2, 0);
            fault("", "bind b f;", 2, 0);
        });
        part("PART: state NAME [final] ;", "state n ;", "state n final ;");
        part("or turn NAME [odd NUMBER] ;", "turn n ;", "turn n odd 3 ;");
        part("or rule NAME NAME to NAME ;", "rule s t to s ;");
        part("or book NAME from NAME misses NUMBER {NAME} ;", "book n from s misses 2 ;", "book n from s misses 2 t t ;");
        part("or finale NAME {NAME} ;", "finale n t ;", "finale n t t ;");
        part("or hint NAME at NUMBER is NAME by NAME ;", "hint b at 3 is t by r ;");
        part("or reader NAME ;", "reader n ;");
        part("or offer NAME costs NUMBER tells {NAME} ;", "offer n costs 2 tells ;", "offer n costs 2 tells b c ;");
        part("or watch NAME costs NUMBER guards {NAME} ;", "watch n costs 2 guards ;", "watch n costs 2 guards b c ;");
        part("or follows NAME NAME ;", "follows b c ;");
        Sentences.terms("({ } any number of times, [ ] perhaps.)", () -> {
            right(HEAD + "offer n costs 1 tells;watch m costs 1 guards;book d from s misses 1;");
            right(HEAD + "offer n costs 1 tells" + " b c".repeat(40) + ";watch m costs 1 guards" + " c".repeat(40) + ";");
            right("state n;state m final;turn k;turn l odd 2;");
            fault("", "state n final final;", 2, 14);
            fault("", "turn n odd 2 odd 2;", 2, 13);
        });
    }

    private static void names() {
        Sentences.terms("NAME: a WORD of 1 to 8 letters", () -> {
            right("state a;state abcdefgh;turn abcdefgi;rule a abcdefgi to abcdefgh;");
            fault("", "state ;", 2, 6);
            fault("", "state abcdefghi;", 2, 6);
            fault("state abcdefgh;turn t;", "rule abcdefghi t to abcdefgh;", 2, 5);
            fault("state bcdefghi;turn t;", "rule abcdefghi t to bcdefghi;", 2, 5);
            fault("", "state abcdefghijklmnopqrstuvwxyz;", 2, 6);
        });
        Sentences.terms("that is none of " + WORDS + ".", () -> {
            for (String word : WORDS.split(", ")) {
                fault("", "state " + word + ";", 2, 6);
                fault(HEAD, "reader " + word + ";", 2, 7);
                right("state " + word + "x;");
                right("state q" + word.substring(1) + ";");
            }
            right("state o;state n;state b;state ben;state sto;state i;state t;");
        });
        Sentences.terms("One NAME is of one thing alone.", () -> {
            for (String taken : "s t b c f r o w".split(" ")) {
                fault(HEAD, "state " + taken + ";", 3, 6);
                fault(HEAD, "turn " + taken + ";", 3, 5);
                fault(HEAD, "book " + taken + " from s misses 1;", 3, 5);
                fault(HEAD, "finale " + taken + " t;", 3, 7);
                fault(HEAD, "reader " + taken + ";", 3, 7);
                fault(HEAD, "offer " + taken + " costs 1 tells;", 3, 6);
                fault(HEAD, "watch " + taken + " costs 1 guards;", 3, 6);
            }
            right(HEAD + "state ss;turn tt;reader rr;");
            // Fifty names at once: the last is still one, which weeks can name.
            LastPages x = Checks.with(Full.names());
            Checks.fine("all of them", x, Checks.weeks(x, "bind q w;bind v zd;call ze;call zj;"), 4);
            Checks.refused("of another thing", x, Checks.weeks(x, "call zd;"), 10);
            Checks.due("no reader", x.fault(0), 3);
        });
    }

    private static void statesAndTurns() {
        Sentences.terms("STATES, at most 8:", () -> limit("", "state x#;", 8));
        Sentences.terms("FINAL or not.", () -> {
            LastPages x = Checks.with("state a final;state b;state c;state d;state e;state f;state g;state h final;");
            Checks.fine("the first and the eighth", x, x.many(9), 129);
            LastPages y = Checks.with("state a;state b final;state c;");
            Checks.fine("the second alone", y, y.many(9), 2);
            LastPages z = Checks.with("state a;state b;");
            Checks.fine("none", z, z.many(9), 0);
        });
        Sentences.terms("TURNS, at most 8:", () -> limit("", "turn x#;", 8));
        Sentences.terms("ODD by so much (0 to 9; 1 without).", () -> {
            LastPages x = Checks.with("turn a odd 0;turn b odd 9;turn c;turn d odd 1;");
            int[] due = {0, 9, 1, 1};
            for (int turn = 0; turn < due.length; turn++) {
                Checks.fine("turn " + turn, x, x.odd(turn), due[turn]);
            }
            fault("", "turn t odd 10;", 4, 11);
            fault("", "turn t odd 9999;", 4, 11);
            fault("", "turn t odd;", 2, 10);
        });
        Sentences.terms("RULES: in the first (a STATE) a TURN leads to the second", () -> {
            LastPages x = Checks.with("state s;state p;turn t;turn u;rule s t to p;rule p t to p;");
            Checks.fine("from the first to the second", x, x.rule(0, 0), 1);
            Checks.fine("to itself", x, x.rule(1, 0), 1);
            Checks.refused("none of this turn", x, x.rule(0, 1), 8);
        });
        Sentences.terms("(told again for these two: the latest).", () -> {
            LastPages x = Checks.with("state s;state p;state q;turn t;"
                + "rule s t to p;rule s t to q;".repeat(20) + "rule s t to s;");
            Checks.fine("the latest of 41", x, x.rule(0, 0), 0);
            Checks.fine("one rule", x, x.many(8), 1);
            LastPages y = Checks.with("state s;state p;turn t;rule s t to p;rule p t to s;");
            Checks.fine("the first of another pair stays", y, y.rule(0, 0), 1);
        });
    }

    private static void booksAndFinales() {
        Sentences.terms("BOOKS, at most 6: FROM a STATE,", () -> {
            limit("state s;", "book x# from s misses 1;", 6);
            LastPages x = Checks.with("state a;state b;state c;state d;state e;state f;state g;state h;turn t;"
                + "book k from a misses 1;book l from h misses 1;");
            Checks.fine("the first state", x, x.book(0, 0), 0);
            Checks.fine("the eighth", x, x.book(1, 0), 7);
        });
        Sentences.terms("MISSES so many PAGES (1 to 6),", () -> {
            LastPages x = Checks.with("state s;book k from s misses 1;book l from s misses 6;book m from s misses 0006;");
            Checks.fine("one", x, x.book(0, 2), 1);
            Checks.fine("six", x, x.book(1, 2), 6);
            Checks.fine("six in four digits", x, x.book(2, 2), 6);
            fault("state s;", "book k from s misses 0;", 4, 21);
            fault("state s;", "book k from s misses 7;", 4, 21);
        });
        Sentences.terms("its PAGES that are there: TURNS, one by one, at most 10.", () -> {
            LastPages x = Checks.with(HEAD + "turn u;book k from s misses 1;book l from s misses 1 t t t t t t t t t u;");
            Checks.fine("none", x, x.book(2, 1), 0);
            Checks.fine("ten", x, x.book(3, 1), 10);
            Checks.fine("the ninth", x, x.page(3, 8), 0);
            Checks.fine("the tenth", x, x.page(3, 9), 1);
            fault(HEAD, "book k from s misses 1 t t t t t t t t t t t;", 6, 43);
        });
        Sentences.terms("FINALES, at most 8:", () -> limit("turn t;", "finale x# t;", 8));
        Sentences.terms("1 to 6 TURNS.", () -> {
            LastPages x = Checks.with("turn t;turn u;finale f u;finale g t t t t t u;");
            Checks.fine("one", x, x.finale(0, 1), 1);
            Checks.refused("no more", x, x.finale(0, 2), 8);
            Checks.fine("the sixth", x, x.finale(1, 6), 1);
            fault("turn t;", "finale f;", 2, 8);
            fault("turn t;", "finale f t t t t t t t;", 6, 21);
        });
    }

    private static void readersAndHints() {
        Sentences.terms("READERS, at most 6.", () -> limit("", "reader x#;", 6));
        Sentences.terms("HINTS, at most 12:", () -> limit("state s;turn t;book b from s misses 3;reader r;", "hint b "
            + "at 1 is t by r;", 12));
        Sentences.terms("that in a BOOK AT a missing place (1 the first; no more than it MISSES) there IS a TURN, BY "
            + "a READER.", () -> {
            LastPages x = Checks.with(HEAD + "hint b at 1 is t by r;hint b at 3 is t by r;hint c at 1 is t by r;");
            Checks.fine("the first place", x, x.hint(0, 1), 1);
            Checks.fine("the last place", x, x.hint(1, 1), 3);
            fault(HEAD, "hint b at 0 is t by r;", 4, 10);
            fault(HEAD, "hint b at 4 is t by r;", 4, 10);
            fault(HEAD, "hint c at 2 is t by r;", 4, 10);
            String six = HEAD + "book k from s misses 6;";
            right(six + "hint k at 6 is t by r;");
            fault(six, "hint k at 7 is t by r;", 4, 10);
        });
    }

    private static void offersAndWatches() {
        Sentences.terms("OFFERS, at most 6:", () -> limit("state s;book b from s misses 1;", "offer x# costs 1 tells b;", 6));
        Sentences.terms("COSTS (0 to 99), TELLS a set of BOOKS.", () -> {
            LastPages x = Checks.with(HEAD + "offer k costs 0 tells;offer l costs 99 tells c b c;");
            Checks.fine("for nothing", x, x.offer(1, 0), 0);
            Checks.fine("of nothing", x, x.offer(1, 1), 0);
            Checks.fine("as dear as can be", x, x.offer(2, 0), 99);
            Checks.fine("told twice is once", x, x.offer(2, 1), 3);
            fault(HEAD, "offer k costs 100 tells b;", 4, 14);
        });
        Sentences.terms("WATCHES, at most 8:", () -> limit("state s;book b from s misses 1;", "watch x# costs 1 guards b;", 8));
        Sentences.terms("COSTS (0 to 99), GUARDS a set of BOOKS.", () -> {
            LastPages x = Checks.with(HEAD + "watch k costs 0 guards;watch l costs 99 guards c b c;");
            Checks.fine("for nothing", x, x.watch(1, 0), 0);
            Checks.fine("of nothing", x, x.watch(1, 1), 0);
            Checks.fine("as dear as can be", x, x.watch(2, 0), 99);
            Checks.fine("told twice is once", x, x.watch(2, 1), 3);
            fault(HEAD, "watch k costs 100 guards b;", 4, 14);
        });
        Sentences.terms("FOLLOWS: who knows the ending of the first BOOK knows that of the second.", () -> {
            LastPages x = Checks.with(HEAD + "offer k costs 1 tells c;" + "follows b c;".repeat(30));
            Checks.fine("the second by the first, told 30 times", x, x.known(1), 3);
            Checks.fine("not the first by the second", x, x.known(2), 2);
            LastPages y = Checks.with(HEAD + "book k from s misses 1;follows b c;follows b k;");
            Checks.fine("two by one", y, y.known(1), 7);
        });
    }

    private static void numbered() {
        String books = "book ka from h misses 1;book kb from g misses 2;book kc from f misses 3;book kd from e misses 4;"
            + "book ke from d misses 5;book kf from c misses 6;";
        String finales = "finale fa th;finale fb tg;finale fc tf;finale fd te;finale fe td;finale ff tc;finale fg tb;"
            + "finale fh ta;";
        LastPages x = Checks.with("turn ta;state a;turn tb;state b;turn tc;state c;turn td;state d;turn te;state e;"
            + "turn tf;state f;"
            + "turn tg;state g;turn th;state h;" + books + finales
            + "reader ra;reader rb;reader rc;reader rd;reader re;reader rf;hint kf at 6 is th by rf;hint ka at 1 is ta by ra;"
            + "offer oa costs 5 tells kf;offer ob costs 6 tells ka;watch wa costs 7 guards kf;watch wb costs 8 guards ka;");
        for (int i = 0; i < 6; i++) {
            Checks.fine("book " + i, x, x.book(i, 0), 7 - i);
            Checks.fine("misses " + i, x, x.book(i, 2), i + 1);
        }
        for (int i = 0; i < 8; i++) {
            Checks.fine("finale " + i, x, x.finale(i, 1), 7 - i);
        }
        int[][] hints = {{5, 6, 7, 5}, {0, 1, 0, 0}};
        for (int what = 0; what < 4; what++) {
            Checks.fine("the first hint " + what, x, x.hint(0, what), hints[0][what]);
            Checks.fine("the second hint " + what, x, x.hint(1, what), hints[1][what]);
        }
        Checks.fine("the first offer", x, x.offer(0, 1), 32);
        Checks.fine("the second offer", x, x.offer(1, 0), 6);
        Checks.fine("the first watch", x, x.watch(0, 1), 32);
        Checks.fine("the second watch", x, x.watch(1, 0), 8);
    }

    private static void toldAhead() {
        fault("turn t;", "rule s t to s;state s;", 3, 5);
        fault("state s;", "rule s t to s;turn t;", 3, 7);
        fault("state s;turn t;", "rule s t to p;state p;", 3, 12);
        fault("turn t;", "book b from s misses 1;state s;", 3, 12);
        fault("state s;", "book b from s misses 1 t;turn t;", 3, 23);
        fault("state s;", "finale f t;turn t;", 3, 9);
        fault("turn t;reader r;", "hint b at 1 is t by r;", 3, 5);
        fault("state s;book b from s misses 1;reader r;", "hint b at 1 is t by r;turn t;", 3, 15);
        fault("state s;turn t;book b from s misses 1;", "hint b at 1 is t by r;reader r;", 3, 20);
        fault("state s;", "offer o costs 1 tells b;book b from s misses 1;", 3, 22);
        fault("state s;", "watch w costs 1 guards b;book b from s misses 1;", 3, 23);
        fault("state s;book c from s misses 1;", "follows b c;book b from s misses 1;", 3, 8);
        fault("state s;book c from s misses 1;", "follows c b;book b from s misses 1;", 3, 10);
        fault("", "book b from b misses 1;", 3, 12);
        fault("turn t;", "finale f f;", 3, 9);
    }

    private static void faults() {
        Sentences.terms("FAULTS, the first along the text", () -> {
            fault("", "turn t odd 10;state ?;", 4, 11);
            fault("", "state s;state s;turn;?", 3, 14);
            fault("", "finale f;?", 2, 8);
            fault("", "?;finale f;", 1, 0);
        });
        Sentences.terms("(of one TOKEN the least kind):", () -> {
            fault("", "12345", 1, 0);
            fault(HEAD, "book k from s misses 1 t t t t t t t t t t ?", 1, 43);
            fault(HEAD, "book k from s misses 1 t t t t t t t t t t 5", 2, 43);
            fault(HEAD, "book k from s misses 1 t t t t t t t t t t book", 2, 43);
            fault(HEAD, "book k from s misses 1 t t t t t t t t t t s", 3, 43);
            fault(HEAD, "finale k t t t t t t 12345", 1, 21);
            fault(HEAD, "finale k t t t t t t abcdefghi", 2, 21);
            fault(HEAD, "finale k t t t t t t k", 3, 21);
        });
        Sentences.terms("1 no TOKEN begins so", () -> {
            for (String text : new String[] {"?", "A", "(", "\t", "\u0000", "\u00ff"}) {
                fault("", text, 1, 0);
                fault("state s;", text, 1, 0);
                fault("", "state s" + text, 1, 7);
                fault("", "turn t odd 1" + text, 1, 12);
            }
        });
        Sentences.terms("(a NUMBER of 5 digits and more: at its first).", () -> {
            fault("", "turn t odd 00000;", 1, 11);
            fault("", "turn t odd 12345678901234567890;", 1, 11);
            fault("", "turn t odd" + "0".repeat(200), 1, 10);
            fault("", "turn 12345;", 1, 5);
            fault("", "turn t odd 9999;", 4, 11);
        });
        Sentences.terms("2 it can't stand there (the end: the text's length;", () -> {
            fault("", "state", 2, 5);
            fault("", "state s \n ", 2, 10);
            fault(HEAD, "offer k costs 1 tells b", 2, 23);
            LastPages x = new LastPages();
            Checks.feed(x, "state s;");
            Checks.refused("a text that ends ahead of the tape's end", x, x.shelf(7), 10);
            Checks.due("kind", x.fault(0), 2);
            Checks.due("place", x.fault(1), 7);
            String text = "state s;" + " ".repeat(887) + "state";
            Checks.feed(x, text);
            Checks.refused("the end of 900", x, x.shelf(900), 10);
            Checks.due("kind", x.fault(0), 2);
            Checks.due("place", x.fault(1), 900);
        });
        Sentences.terms("a WORD of 9 letters and more where a NAME must stand;", () -> {
            fault("", "state abcdefghi;", 2, 6);
            fault(HEAD, "rule ssssssssss t to s;", 2, 5);
            fault(HEAD, "book k from s misses 1 abcdefghi;", 2, 23);
            fault(HEAD, "offer k costs 1 tells abcdefghi;", 2, 22);
            fault("", "abcdefghi", 2, 0);
        });
        Sentences.terms("a finale without TURNS: where the first must stand).", () -> {
            fault(HEAD, "finale k;", 2, 8);
            fault(HEAD, "finale k  ;", 2, 10);
            fault(HEAD, "finale k", 2, 8);
            fault(HEAD, "finale k state z;", 2, 9);
        });
        faultsOfNamesAndNumbers();
        faultsOfOneMore();
    }

    private static void faultsOfNamesAndNumbers() {
        Sentences.terms("3 a new NAME that is taken;", () -> {
            fault("state s;", "state s;", 3, 6);
            fault("state s;", "turn s odd 12345;", 3, 5);
            fault(HEAD, "watch o costs 100 guards b;", 3, 6);
        });
        Sentences.terms("a NAME that is no such one told ahead.", () -> {
            fault(HEAD, "rule z t to s;", 3, 5);
            fault(HEAD, "rule t t to s;", 3, 5);
            fault(HEAD, "rule s s to s;", 3, 7);
            fault(HEAD, "rule s t to t;", 3, 12);
            fault(HEAD, "book k from b misses 1;", 3, 12);
            fault(HEAD, "book k from s misses 1 s;", 3, 23);
            fault(HEAD, "finale k f;", 3, 9);
            fault(HEAD, "hint r at 1 is t by r;", 3, 5);
            fault(HEAD, "hint b at 1 is b by r;", 3, 15);
            fault(HEAD, "hint b at 1 is t by t;", 3, 20);
            fault(HEAD, "offer k costs 1 tells w;", 3, 22);
            fault(HEAD, "watch k costs 1 guards o;", 3, 23);
            fault(HEAD, "follows f c;", 3, 8);
            fault(HEAD, "follows b r;", 3, 10);
            LastPages x = Checks.with(HEAD);
            Checks.refused("names of the shelf ahead are none", x, Checks.shelf(x, "rule s t to s;"), 10);
            Checks.due("kind", x.fault(0), 3);
            Checks.due("place", x.fault(1), 5);
        });
        Sentences.terms("4 a NUMBER that can't be. 5 a BOOK", () -> {
            fault("", "turn t odd 10;", 4, 11);
            fault(HEAD, "book k from s misses 0;", 4, 21);
            fault(HEAD, "book k from s misses 7;", 4, 21);
            fault(HEAD, "hint b at 0 is t by r;", 4, 10);
            fault(HEAD, "hint b at 4 is t by r;", 4, 10);
            fault(HEAD, "offer k costs 100 tells b;", 4, 14);
            fault(HEAD, "watch k costs 100 guards b;", 4, 14);
        });
        Sentences.terms("5 a BOOK that FOLLOWS itself (at the second NAME).", () -> {
            fault(HEAD, "follows b b;", 5, 10);
            fault(HEAD, "follows  c  c", 5, 12);
            right(HEAD + "follows b c;follows c b;");
        });
    }

    private static void faultsOfOneMore() {
        Sentences.terms("6 one more state, turn, book, finale, reader, hint, offer, watch than there may be (at that "
            + "WORD);", () -> {
            String full = "state x#;".repeat(8);
            for (int i = 0; i < 8; i++) {
                full = full.replaceFirst("#", String.valueOf((char) ('a' + i)));
            }
            fault(full, "state", 6, 0);
            fault(full, "state ?", 6, 0);
            fault(full, "state xa;", 6, 0);
            fault(full, "\n\n state y;", 6, 3);
            right(full + "turn y;");
        });
        Sentences.terms("an 11th PAGE, a seventh TURN of a finale (at its NAME).", () -> {
            right(HEAD + "book k from s misses 1 t t t t t t t t t t;");
            fault(HEAD, "book k from s misses 1 t t t t t t t t t t t", 6, 43);
            fault(HEAD, "book k from s misses 1 t t t t t t t t t t  t t ?", 6, 44);
            right(HEAD + "finale k t t t t t t;");
            fault(HEAD, "finale k t t t t t t t", 6, 21);
            fault(HEAD, "finale k t t t t t t  t t ?", 6, 22);
        });
    }

    private static void taken() {
        LastPages x = Checks.with(Rich.SHELF);
        x.call(1, true);
        Checks.fine("bound", x, x.bind(1, 1));
        Checks.weeks(x, Rich.WEEKS);
        Checks.fine("the same text again", x, Checks.shelf(x, Rich.SHELF), 3);
        Checks.fine("nothing is bound", x, x.many(10), 0);
        Checks.fine("all are believed", x, x.many(11), 0);
        Checks.refused("no weeks", x, x.live(0), 8);
        Checks.same("all as if it were the first", Seen.of(x), Seen.of(Checks.with(Rich.SHELF)));
        String small = "state z;state y;turn x;reader w;book v from z misses 1;book u from y misses 1;finale r x;"
            + "offer q costs 1 tells v;watch p costs 1 guards v;";
        LastPages y = Checks.with(Rich.SHELF);
        for (int i = 0; i < 3; i++) {
            y.call(1, true);
            y.bind(1, 1);
            Checks.weeks(y, Rich.WEEKS);
            String next = i == 0 ? Rich.SHELF : small;
            Checks.shelf(y, next);
            Checks.same("nothing of those ahead is left", Seen.butTexts(y), Seen.butTexts(Checks.with(next)));
        }
        LastPages z = new LastPages();
        Checks.refused("a fault at the end", z, Checks.shelf(z, Rich.SHELF + "?"), 10);
        Checks.shelf(z, small);
        Checks.same("nothing of what was not taken", Seen.of(z), Seen.of(Checks.with(small)));
    }
}
