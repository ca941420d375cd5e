/** The sentences of promises 1 to 28: each with its bounds, and each STATUS that it names. */
final class BoundsOfPromises {
    private static final int[] FAR = {Integer.MIN_VALUE, Integer.MAX_VALUE};

    private BoundsOfPromises() { }

    static void run() {
        aNewObject();
        trays();
        pouring();
        tape();
        shelf();
        weeks();
        Sentences.promise(12, "Of the latest of these with STATUS 0 or 10, what 0: the FAULT (0 without one), 1: its "
            + "place (NONE without).",
            BoundsOfPromises::faultsTold);
        Sentences.promise(12, "NONE for others, and ahead of any.", BoundsOfPromises::faultsNotTold);
        many();
        rules();
        books();
        finalesAndHints();
        lots();
        copying();
        binding();
        calling();
        changing();
    }

    private static void aNewObject() {
        Sentences.promise(1, "TRAYS are MISSING, a SHELF of nothing, no WEEKS, MARKS, an empty tape;", () -> {
            LastPages x = new LastPages();
            for (int tray = 0; tray < 4; tray++) {
                Checks.refused("tray " + tray, x, x.read(tray, 0), 3);
            }
            for (int what = 0; what <= 11; what++) {
                Checks.fine("many " + what, x, x.many(what), 0);
            }
            Checks.refused("weeks", x, x.live(0), 8);
            Checks.refused("marks", x, x.back(), 8);
            Checks.refused("tape", x, x.shelf(1), 5);
            Checks.refused("tape", x, x.weeks(1), 5);
            Checks.due("tape", x.feed(0, 0, 0, 0, 0), 20);
        });
        Sentences.promise(1, "STATUS 0, the FRACTION 0 by 1.", () -> {
            LastPages x = new LastPages();
            Checks.due("status", x.status(), 0);
            Checks.fraction("fraction", x, 0, 1);
        });
        Sentences.promise(2, "The STATUS of the latest call that has one.", () -> {
            LastPages x = new LastPages();
            x.read(4, 0);
            Checks.due("of a refused call", x.status(), 1);
            x.feed(0, 0, 0, 0, 0);
            Checks.due("feed has none", x.status(), 1);
            Checks.due("status itself has none", x.status(), 1);
            x.match();
            Checks.due("of one that is fine", x.status(), 0);
        });
        Sentences.promise(3, "The top of the FRACTION told latest.", () -> {
            LastPages x = Rich.object();
            Checks.due("told by chance", x.top(), 1);
            x.mean(3, 2);
            Checks.due("told by mean", x.top(), 2);
            x.mean(-1, 2);
            x.chance(2, 1, 0);
            Checks.due("refused ones tell none", x.top(), 2);
        });
        Sentences.promise(4, "Its bottom, above 0.", () -> {
            LastPages x = Rich.object();
            Checks.due("told by chance", x.bottom(), 2);
            x.chance(1, 1, 2);
            Checks.due("of 0", x.bottom(), 1);
            x.chance(1, 1, 0);
            x.chance(2, 1, 0);
            x.mean(0, 0);
            Checks.due("refused ones tell none", x.bottom(), 2);
            Checks.due("at first", new LastPages().bottom(), 1);
        });
    }

    private static void trays() {
        Sentences.promise(5, "A TRAY is a row of so many numbers (at most 60; 5),", () -> {
            LastPages x = new LastPages();
            Checks.fine("as many as may be", x, x.tray(0, 0, 60));
            Checks.fine("the last", x, x.read(0, 59), 0);
            Checks.refused("no more", x, x.read(0, 60), 4);
            Checks.fine("none", x, x.tray(0, 0, 0));
            Checks.refused("none is there, not missing", x, x.read(0, 0), 4);
            Sentences.denied(5, Rich::object, y -> y.tray(0, 0, 61));
            Sentences.denied(5, Rich::object, y -> y.tray(3, 3, Integer.MAX_VALUE));
        });
        Sentences.promise(5, "all 0 (1; 5; 6).", () -> {
            LastPages x = Rich.object();
            Checks.fine("anew, longer", x, x.tray(0, 0, 3));
            for (int place = 0; place < 3; place++) {
                Checks.fine("place " + place, x, x.read(0, place), 0);
            }
            Sentences.denied(1, Rich::object, y -> y.tray(-1, 0, 1));
            Sentences.denied(1, Rich::object, y -> y.tray(4, 0, 1));
            Sentences.denied(1, Rich::object, y -> y.tray(0, -1, 1));
            Sentences.denied(1, Rich::object, y -> y.tray(0, 4, 1));
            Sentences.denied(1, Rich::object, y -> y.tray(0, 4, 61));
            Sentences.denied(1, Rich::object, y -> y.tray(4, 0, -1));
            Sentences.denied(6, Rich::object, y -> y.tray(0, 0, -1));
            Sentences.denied(6, Rich::object, y -> y.tray(3, 3, Integer.MIN_VALUE));
        });
        Sentences.promise(6, "A number comes to a place of a TRAY (1; 3; 4).", () -> {
            LastPages x = new LastPages();
            x.tray(3, 3, 60);
            Checks.fine("the first", x, x.write(3, 0, Long.MIN_VALUE));
            Checks.fine("the last", x, x.write(3, 59, Long.MAX_VALUE));
            Checks.fine("the first", x, x.read(3, 0), Long.MIN_VALUE);
            Checks.fine("the last", x, x.read(3, 59), Long.MAX_VALUE);
            Checks.fine("no other", x, x.read(3, 1), 0);
            Sentences.denied(1, Rich::object, y -> y.write(-1, 0, 9));
            Sentences.denied(1, Rich::object, y -> y.write(4, 9, 9));
            Sentences.denied(3, Rich::object, y -> y.write(3, 0, 9));
            Sentences.denied(3, Rich::object, y -> y.write(3, -1, 9));
            Sentences.denied(4, Rich::object, y -> y.write(0, -1, 9));
            Sentences.denied(4, Rich::object, y -> y.write(0, 2, 9));
            for (int far : FAR) {
                Sentences.denied(4, Rich::object, y -> y.write(0, far, 9));
                Sentences.denied(1, Rich::object, y -> y.write(far, 0, 9));
            }
        });
        Sentences.promise(7, "The number in a place of a TRAY;", () -> {
            LastPages x = Rich.object();
            Checks.fine("the first", x, x.read(0, 0), 1);
            Checks.fine("the last", x, x.read(1, 2), 6);
        });
        Sentences.promise(7, "STATUS tells NONE from -1 (1; 3; 4).", () -> {
            LastPages x = Rich.object();
            x.write(0, 0, -1);
            Checks.fine("-1", x, x.read(0, 0), -1);
            Sentences.refused(1, Rich::object, y -> y.read(-1, 0));
            Sentences.refused(1, Rich::object, y -> y.read(4, 9));
            Sentences.refused(3, Rich::object, y -> y.read(3, 0));
            Sentences.refused(3, Rich::object, y -> y.read(3, -1));
            Sentences.refused(4, Rich::object, y -> y.read(0, -1));
            Sentences.refused(4, Rich::object, y -> y.read(0, 2));
            for (int far : FAR) {
                Sentences.refused(4, Rich::object, y -> y.read(0, far));
                Sentences.refused(1, Rich::object, y -> y.read(far, 0));
            }
        });
    }

    private static LastPages rows() {
        LastPages x = Rich.object();
        x.tray(0, 1, 60);
        for (int i = 0; i < 60; i++) {
            x.write(0, i, 100 + i);
        }
        return x;
    }

    private static void pouring() {
        Sentences.promise(8, "So many numbers from place i on of a TRAY come to place j on of another one, or the "
            + "same, as they were:", () -> {
            LastPages x = rows();
            Checks.fine("to another", x, x.pour(0, 57, 1, 0, 3));
            Checks.fine("its first", x, x.read(1, 0), 157);
            Checks.fine("its last", x, x.read(1, 2), 159);
            Checks.fine("the whole to itself", x, x.pour(0, 0, 0, 0, 60));
            Checks.fine("up", x, x.pour(0, 0, 0, 1, 59));
            for (int i = 0; i < 60; i++) {
                Checks.fine("up " + i, x, x.read(0, i), i == 0 ? 100 : 99 + i);
            }
            Checks.fine("down", x, x.pour(0, 1, 0, 0, 59));
            for (int i = 0; i < 60; i++) {
                Checks.fine("down " + i, x, x.read(0, i), i < 59 ? 100 + i : 158);
            }
            Checks.fine("none", x, x.pour(0, 0, 1, 0, 0));
            Checks.fine("nothing came", x, x.read(1, 0), 157);
        });
        Sentences.promise(8, "1, 3 (either), 11, 6, 4, asked in this order.", () -> {
            Sentences.denied(1, Rich::object, x -> x.pour(-1, 9, 3, 9, -1));
            Sentences.denied(1, Rich::object, x -> x.pour(3, 9, 4, 9, -1));
            Sentences.denied(3, Rich::object, x -> x.pour(3, 9, 0, 9, -1));
            Sentences.denied(3, Rich::object, x -> x.pour(0, 9, 3, 9, -1));
            Sentences.denied(3, Rich::object, x -> x.pour(3, 0, 3, 0, 0));
            Sentences.denied(11, Rich::object, x -> x.pour(0, 9, 1, 9, -1));
            Sentences.denied(6, Rich::object, x -> x.pour(1, 9, 2, 9, -1));
            Sentences.denied(6, Rich::object, x -> x.pour(1, 0, 2, 0, Integer.MIN_VALUE));
            Sentences.denied(4, Rich::object, x -> x.pour(1, 1, 1, 0, 3));
            Sentences.denied(4, Rich::object, x -> x.pour(1, 0, 1, 1, 3));
            Sentences.denied(4, Rich::object, x -> x.pour(1, 0, 2, 0, 2));
            Sentences.denied(4, Rich::object, x -> x.pour(1, -1, 1, 0, 1));
            Sentences.denied(4, Rich::object, x -> x.pour(1, 0, 1, -1, 1));
            Sentences.denied(4, Rich::object, x -> x.pour(1, 1, 1, 0, Integer.MAX_VALUE));
            Sentences.denied(4, Rich::object, x -> x.pour(1, Integer.MAX_VALUE, 1, 0, 1));
            Sentences.denied(4, Rich::object, x -> x.pour(1, 0, 1, Integer.MAX_VALUE, 2));
        });
    }

    private static int blanks(LastPages x) {
        return x.feed(0x20202020, 0x20202020, 0x20202020, 0x20202020, 0x20202020);
    }

    private static void tape() {
        Sentences.promise(9, "Twenty bytes come behind those on the tape, the highest of each int first: how many it "
            + "has;", () -> {
            // "state s;" filled up by blanks, then "turn t;" and a byte that begins no token, the sign bit of which is set.
            LastPages x = new LastPages();
            Checks.due("twenty", x.feed(0x73746174, 0x6520733b, 0x20202020, 0x20202020, 0x20202020), 20);
            Checks.due("forty", x.feed(0x7475726e, 0x20743b80, 0x20202020, 0x20202020, 0x20202020), 40);
            Checks.refused("the 28th byte", x, x.shelf(40), 10);
            Checks.due("kind", x.fault(0), 1);
            Checks.due("place", x.fault(1), 27);
            x.feed(0x20202020, 0x20202020, 0x20202020, 0x20202020, 0x2020203f);
            x.shelf(20);
            Checks.due("the twentieth", x.fault(1), 19);
            x.feed(0xff202020, 0x20202020, 0x20202020, 0x20202020, 0x20202020);
            x.shelf(20);
            Checks.due("the first", x.fault(1), 0);
        });
        Sentences.promise(9, "NONE if there would be more than 900.", () -> {
            LastPages x = new LastPages();
            for (int i = 1; i <= 45; i++) {
                Checks.due("feed", blanks(x), 20 * i);
            }
            Checks.due("full", x.feed(-1, -1, -1, -1, -1), -1);
            Checks.due("no status", x.status(), 0);
            Checks.refused("nothing came", x, x.shelf(901), 5);
            Checks.fine("nothing was changed", x, x.shelf(900), 0);
            Checks.due("empty", blanks(x), 20);
        });
    }

    private static void shelf() {
        Sentences.promise(10, "The first n bytes of the tape", () -> {
            LastPages x = new LastPages();
            Checks.feed(x, "state s;state p;");
            Checks.fine("eight of them", x, x.shelf(8), 0);
            Checks.fine("one state", x, x.many(0), 1);
            Checks.feed(x, "state s;state p;");
            Checks.fine("all", x, x.shelf(20), 0);
            Checks.fine("two states", x, x.many(0), 2);
            Checks.feed(x, "state s;state p;");
            Checks.fine("none", x, x.shelf(0), 0);
            Checks.fine("no states", x, x.many(0), 0);
        });
        Sentences.promise(10, "(which is empty then, but for 5)", () -> {
            LastPages x = new LastPages();
            Checks.feed(x, "state s;state p;");
            Checks.refused("more than there are", x, x.shelf(21), 5);
            Checks.refused("below 0", x, x.shelf(-1), 5);
            Checks.due("not empty", blanks(x), 40);
            Checks.fine("taken", x, x.shelf(16), 0);
            Checks.due("empty", blanks(x), 20);
            Checks.fine("none", x, x.shelf(0), 0);
            Checks.refused("a fault", x, Checks.shelf(x, "?"), 10);
            Checks.due("empty", blanks(x), 20);
        });
        Sentences.promise(10, "are the SHELF: how many BOOKS", () -> {
            String text = "state s;";
            for (int books = 0; books <= 6; books++) {
                LastPages x = new LastPages();
                Checks.fine("books", x, Checks.shelf(x, text), books);
                text += "book b" + (char) ('a' + books) + " from s misses 1;";
            }
        });
        Sentences.promise(10, "(5; 10: the old one stays).", () -> {
            Sentences.refused(5, Rich::object, x -> x.shelf(-1));
            Sentences.refused(5, Rich::object, x -> x.shelf(21));
            Sentences.refused(5, LastPages::new, x -> x.shelf(1));
            for (int far : FAR) {
                Sentences.refused(5, Rich::object, x -> x.shelf(far));
            }
            LastPages x = Rich.object();
            Checks.refused("a fault", x, x.shelf(16), 10);
            Sentences.asked(10);
            Checks.same("the old one", Seen.butTexts(x), Seen.butTexts(Rich.object()));
        });
    }

    private static void weeks() {
        Sentences.promise(11, "Likewise the WEEKS: how many STEPS", () -> {
            LastPages x = Rich.plain();
            x.shelf(0);
            Checks.fine("none", x, x.weeks(0), 0);
            Checks.feed(x, "stop;stop;");
            Checks.fine("the first n bytes", x, x.weeks(5), 1);
            Checks.refused("the tape is empty", x, x.weeks(1), 5);
            Checks.fine("thirty", x, Checks.weeks(x, "loop 2;end;".repeat(20) + "stop;".repeat(10)), 30);
            Checks.refused("a fault", x, Checks.weeks(x, "stop"), 10);
            Checks.refused("the tape is empty", x, x.weeks(1), 5);
            Checks.fine("the old ones stay", x, x.live(0), 21);
        });
        Sentences.promise(11, "(5: above 300, too; 10).", () -> {
            LastPages x = Rich.plain();
            for (int i = 0; i < 20; i++) {
                blanks(x);
            }
            Checks.refused("301 of 420", x, x.weeks(301), 5);
            Checks.refused("420 of 420", x, x.weeks(420), 5);
            Checks.due("the tape stays", blanks(x), 440);
            x.shelf(0);
            for (int i = 0; i < 20; i++) {
                blanks(x);
            }
            Checks.fine("300 of 400", x, x.weeks(300), 0);
            Sentences.refused(5, Rich::object, y -> y.weeks(-1));
            Sentences.refused(5, Rich::object, y -> y.weeks(21));
            Sentences.refused(5, LastPages::new, y -> y.weeks(1));
            for (int far : FAR) {
                Sentences.refused(5, Rich::object, y -> y.weeks(far));
            }
            LastPages z = Rich.object();
            Checks.refused("a fault", z, z.weeks(9), 10);
            Sentences.asked(10);
            Checks.same("all else", Seen.butTexts(z), Seen.butTexts(Rich.object()));
        });
    }

    private static void faultsAre(LastPages x, int kind, int place) {
        Checks.due("fault", x.fault(0), kind);
        Checks.due("place", x.fault(1), place);
    }

    private static void faultsTold() {
        LastPages x = new LastPages();
        Checks.shelf(x, "state s;");
        faultsAre(x, 0, -1);
        Checks.shelf(x, "state s");
        faultsAre(x, 2, 7);
        x.shelf(1);
        x.weeks(301);
        faultsAre(x, 2, 7);
        Checks.weeks(x, "?");
        faultsAre(x, 1, 0);
        Checks.weeks(x, "stop;");
        faultsAre(x, 0, -1);
        Checks.weeks(x, "stop;end;");
        faultsAre(x, 2, 5);
        x.shelf(0);
        faultsAre(x, 0, -1);
    }

    private static void faultsNotTold() {
        LastPages x = new LastPages();
        faultsAre(x, -1, -1);
        x.shelf(1);
        faultsAre(x, -1, -1);
        x.weeks(301);
        faultsAre(x, -1, -1);
        Checks.shelf(x, "?");
        Checks.due("what -1", x.fault(-1), -1);
        Checks.due("what 2", x.fault(2), -1);
        for (int far : FAR) {
            Checks.due("what far off", x.fault(far), -1);
        }
    }

    private static void many() {
        Sentences.promise(13, "STATES (what 0), TURNS (1), BOOKS (2), FINALES (3), READERS (4), HINTS (5), OFFERS (6),"
            + " WATCHES (7), RULES (8);", () -> {
            LastPages x = new LastPages();
            for (int what = 0; what <= 8; what++) {
                Checks.fine("none of " + what, x, x.many(what), 0);
            }
            String full = "state sa;state sb;state sc;state sd;state se;state sf;state sg;state sh;turn ta;turn tb;"
                + "turn tc;turn td;"
                + "turn te;turn tf;turn tg;turn th;reader ra;reader rb;reader rc;reader rd;reader re;reader rf;"
                + "book ba from sa misses 1;book bb from sa misses 1;book bc from sa misses 1;book bd from sa misses 1;"
                + "book be from sa misses 1;book bf from sa misses 1;finale fa ta;finale fb ta;finale fc ta;finale fd "
                + "ta;finale fe ta;"
                + "finale ff ta;finale fg ta;finale fh ta;";
            Checks.fine("full of books", x, Checks.shelf(x, full), 6);
            for (int state = 0; state < 8; state++) {
                for (int turn = 0; turn < 8; turn++) {
                    x.lead(state, turn, 0);
                }
            }
            int[] due = {8, 8, 6, 8, 6, 0, 0, 0, 64};
            for (int what = 0; what < due.length; what++) {
                Checks.fine("most of " + what, x, x.many(what), due[what]);
            }
            StringBuilder text = new StringBuilder("state s;turn t;book b from s misses 1;reader r;");
            for (int i = 0; i < 6; i++) {
                text.append("offer o").append((char) ('a' + i)).append(" costs 1 tells;");
            }
            for (int i = 0; i < 8; i++) {
                text.append("watch w").append((char) ('a' + i)).append(" costs 1 guards;");
            }
            LastPages y = Checks.with(text + "hint b at 1 is t by r;".repeat(12));
            Checks.fine("most hints", y, y.many(5), 12);
            Checks.fine("most offers", y, y.many(6), 6);
            Checks.fine("most watches", y, y.many(7), 8);
        });
        Sentences.promise(13, "the set of STATES that are FINAL (9: 1 for STATE 0 ..),", () -> {
            LastPages x = Checks.with("state a final;state b;state c;state d;state e;state f;state g;state h final;");
            Checks.fine("the first and the last", x, x.many(9), 129);
            for (int state = 1; state < 7; state++) {
                x.close(state, true);
            }
            Checks.fine("all", x, x.many(9), 255);
        });
        Sentences.promise(13, "of BOOKS that have a FINALE (10),", () -> {
            LastPages x = Shelves.fits(6, 63, 63, 63, 63, 63, 63);
            Checks.fine("none", x, x.many(10), 0);
            x.bind(5, 0);
            Checks.fine("the last", x, x.many(10), 32);
            for (int book = 0; book < 5; book++) {
                x.bind(book, book + 1);
            }
            Checks.fine("all", x, x.many(10), 63);
        });
        Sentences.promise(13, "of READERS who are called LIARS (11) (5).", () -> {
            LastPages x = Checks.with("reader a;reader b;reader c;reader d;reader e;reader f;");
            x.call(5, true);
            Checks.fine("the last", x, x.many(11), 32);
            for (int reader = 0; reader < 5; reader++) {
                x.call(reader, true);
            }
            Checks.fine("all", x, x.many(11), 63);
            Sentences.refused(5, Rich::object, y -> y.many(-1));
            Sentences.refused(5, Rich::object, y -> y.many(12));
            for (int far : FAR) {
                Sentences.refused(5, Rich::object, y -> y.many(far));
            }
        });
    }

    private static void rules() {
        Sentences.promise(14, "The STATE to which a TURN leads from a STATE (2; 8: no RULE).", () -> {
            LastPages x = Rich.object();
            Checks.fine("the first", x, x.rule(0, 0), 0);
            Checks.fine("of the last state", x, x.rule(2, 0), 1);
            for (int off : new int[] {-1, 3, FAR[0], FAR[1]}) {
                Sentences.refused(2, Rich::object, y -> y.rule(off, 2));
                Sentences.refused(2, Rich::object, y -> y.rule(0, off));
            }
            Sentences.refused(8, Rich::object, y -> y.rule(0, 2));
            Sentences.refused(8, Rich::object, y -> y.rule(2, 1));
        });
        Sentences.promise(15, "ODD of a TURN (2).", () -> {
            LastPages x = Rich.object();
            Checks.fine("the first", x, x.odd(0), 1);
            Checks.fine("the last", x, x.odd(2), 9);
            for (int off : new int[] {-1, 3, FAR[0], FAR[1]}) {
                Sentences.refused(2, Rich::object, y -> y.odd(off));
            }
        });
    }

    private static void books() {
        Sentences.promise(16, "Of a BOOK, what 0: the STATE FROM which it goes, 1: how many PAGES are there, 2: how "
            + "many it MISSES,", () -> {
            LastPages x = Rich.object();
            int[][] due = {{0, 0, 1}, {0, 1, 2}, {2, 1, 1}};
            for (int book = 0; book < 3; book++) {
                for (int what = 0; what < 3; what++) {
                    Checks.fine("book " + book + ", what " + what, x, x.book(book, what), due[book][what]);
                }
            }
        });
        Sentences.promise(16, "3: its PLACE (8: it BREAKS),", () -> {
            LastPages x = Rich.object();
            Checks.fine("without pages", x, x.book(0, 3), 0);
            Checks.fine("behind one", x, x.book(1, 3), 1);
            Sentences.refused(8, Rich::object, y -> y.book(2, 3));
        });
        Sentences.promise(16, "4: the PAGE at which it BREAKS (8: nowhere),", () -> {
            LastPages x = Rich.object();
            Checks.fine("the first", x, x.book(2, 4), 0);
            Sentences.refused(8, Rich::object, y -> y.book(0, 4));
            Sentences.refused(8, Rich::object, y -> y.book(1, 4));
        });
        Sentences.promise(16, "5: the FINALE that is BOUND to it (8: none) (2; 5).", () -> {
            LastPages x = Rich.object();
            Checks.fine("bound", x, x.book(1, 5), 1);
            Sentences.refused(8, Rich::object, y -> y.book(0, 5));
            Sentences.refused(8, Rich::object, y -> y.book(2, 5));
            for (int off : new int[] {-1, 3, FAR[0], FAR[1]}) {
                Sentences.refused(2, Rich::object, y -> y.book(off, 0));
                Sentences.refused(2, Rich::object, y -> y.book(off, 6));
            }
            for (int off : new int[] {-1, 6, FAR[0], FAR[1]}) {
                Sentences.refused(5, Rich::object, y -> y.book(0, off));
            }
        });
        Sentences.promise(17, "The TURN of a PAGE of a BOOK, from 0 on (2; 8: no such PAGE).", () -> {
            LastPages x = Checks.with("state s;turn t;turn u;book k from s misses 1 u t t t t t t t t u;book l from s misses 1;");
            Checks.fine("the first", x, x.page(0, 0), 1);
            Checks.fine("the second", x, x.page(0, 1), 0);
            Checks.fine("the tenth", x, x.page(0, 9), 1);
            Checks.refused("an eleventh", x, x.page(0, 10), 8);
            Checks.refused("of none", x, x.page(1, 0), 8);
            for (int off : new int[] {-1, 3, FAR[0], FAR[1]}) {
                Sentences.refused(2, Rich::object, y -> y.page(off, 0));
                Sentences.refused(2, Rich::object, y -> y.page(off, -1));
                Sentences.refused(8, Rich::object, y -> y.page(1, off));
            }
            Sentences.refused(8, Rich::object, y -> y.page(0, 0));
            Sentences.refused(8, Rich::object, y -> y.page(1, 1));
        });
    }

    private static void finalesAndHints() {
        Sentences.promise(18, "The TURN of a FINALE at a place, from 1 on (2; 8: no such place).", () -> {
            LastPages x = Checks.with("turn t;turn u;finale f u t t t t u;");
            Checks.fine("the first", x, x.finale(0, 1), 1);
            Checks.fine("the second", x, x.finale(0, 2), 0);
            Checks.fine("the sixth", x, x.finale(0, 6), 1);
            Checks.refused("a seventh", x, x.finale(0, 7), 8);
            Checks.refused("one ahead of the first", x, x.finale(0, 0), 8);
            for (int off : new int[] {-1, 3, FAR[0], FAR[1]}) {
                Sentences.refused(2, Rich::object, y -> y.finale(off, 1));
                Sentences.refused(2, Rich::object, y -> y.finale(off, 0));
                Sentences.refused(8, Rich::object, y -> y.finale(1, off));
            }
            Sentences.refused(8, Rich::object, y -> y.finale(0, 0));
            Sentences.refused(8, Rich::object, y -> y.finale(0, 2));
        });
        Sentences.promise(19, "Of a HINT, what 0: the BOOK, 1: the place, 2: the TURN, 3: the READER (5: no such HINT,"
            + " what).", () -> {
            LastPages x = Rich.object();
            int[][] due = {{0, 1, 0, 0}, {1, 2, 1, 1}, {1, 1, 1, 1}};
            for (int hint = 0; hint < 3; hint++) {
                for (int what = 0; what < 4; what++) {
                    Checks.fine("hint " + hint + ", what " + what, x, x.hint(hint, what), due[hint][what]);
                }
            }
            LastPages y = Checks.with("state s;turn t;book b from s misses 2;reader r;"
                + "hint b at 1 is t by r;".repeat(11) + "hint b at 2 is t by r;");
            Checks.fine("the twelfth", y, y.hint(11, 1), 2);
            Checks.refused("a thirteenth", y, y.hint(12, 1), 5);
            for (int off : new int[] {-1, 3, FAR[0], FAR[1]}) {
                Sentences.refused(5, Rich::object, z -> z.hint(off, 0));
            }
            for (int off : new int[] {-1, 4, FAR[0], FAR[1]}) {
                Sentences.refused(5, Rich::object, z -> z.hint(0, off));
            }
        });
    }

    private static void lots() {
        Sentences.promise(20, "What an OFFER COSTS (what 0), the set of BOOKS that it TELLS (1) (2; 5).", () -> {
            LastPages x = Rich.object();
            Checks.fine("the first costs", x, x.offer(0, 0), 2);
            Checks.fine("the last tells", x, x.offer(1, 1), 2);
            for (int off : new int[] {-1, 2, FAR[0], FAR[1]}) {
                Sentences.refused(2, Rich::object, y -> y.offer(off, 0));
                Sentences.refused(2, Rich::object, y -> y.offer(off, 2));
                Sentences.refused(5, Rich::object, y -> y.offer(0, off));
            }
        });
        Sentences.promise(21, "What a WATCH COSTS (what 0), the set of BOOKS that it GUARDS (1) (2; 5).", () -> {
            LastPages x = Rich.object();
            Checks.fine("the first guards", x, x.watch(0, 1), 3);
            Checks.fine("the last costs", x, x.watch(1, 0), 2);
            for (int off : new int[] {-1, 2, FAR[0], FAR[1]}) {
                Sentences.refused(2, Rich::object, y -> y.watch(off, 0));
                Sentences.refused(2, Rich::object, y -> y.watch(off, 2));
                Sentences.refused(5, Rich::object, y -> y.watch(0, off));
            }
        });
    }

    private static void copying() {
        Sentences.promise(22, "A FINALE comes to a TRAY, TURN by TURN: how many (1; 2; 3; 4).", () -> {
            LastPages x = Checks.with("turn t;turn u;finale f u t t t t u;finale g t;");
            x.tray(0, 0, 6);
            Checks.fine("six, just enough", x, x.copyFinale(0, 0), 6);
            for (int place = 0; place < 6; place++) {
                Checks.fine("place " + place, x, x.read(0, place), x.finale(0, place + 1));
            }
            Checks.fine("one", x, x.copyFinale(1, 0), 1);
            Checks.fine("the first", x, x.read(0, 0), 0);
            Checks.fine("the rest stays", x, x.read(0, 5), 1);
            x.tray(0, 0, 5);
            Checks.refused("one too few", x, x.copyFinale(0, 0), 4);
            x.tray(0, 0, 0);
            Checks.refused("a row of none", x, x.copyFinale(1, 0), 4);
            for (int off : new int[] {-1, 4, FAR[0], FAR[1]}) {
                Sentences.refused(1, Rich::object, y -> y.copyFinale(0, off));
                Sentences.refused(1, Rich::object, y -> y.copyFinale(9, off));
            }
            for (int off : new int[] {-1, 3, FAR[0], FAR[1]}) {
                Sentences.refused(2, Rich::object, y -> y.copyFinale(off, 0));
                Sentences.refused(2, Rich::object, y -> y.copyFinale(off, 3));
            }
            Sentences.refused(3, Rich::object, y -> y.copyFinale(1, 3));
            Sentences.refused(4, Rich::object, y -> y.copyFinale(1, 2));
        });
    }

    private static void binding() {
        Sentences.promise(23, "BIND (2; 9).", () -> {
            LastPages x = Rich.object();
            Checks.fine("bind", x, x.bind(0, 0));
            Checks.fine("bound", x, x.book(0, 5), 0);
            for (int off : new int[] {-1, 3, FAR[0], FAR[1]}) {
                Sentences.denied(2, Rich::object, y -> y.bind(off, 0));
                Sentences.denied(2, Rich::object, y -> y.bind(0, off));
                Sentences.denied(2, Rich::object, y -> y.bind(1, off));
            }
            Sentences.denied(9, Rich::object, y -> y.bind(1, 1));
            Sentences.denied(9, Rich::object, y -> y.bind(0, 1));
            Sentences.denied(9, Rich::object, y -> y.bind(0, 2));
            Sentences.denied(9, Rich::object, y -> y.bind(2, 0));
            Sentences.denied(9, () -> bound(0), y -> y.bind(0, 1));
            Sentences.denied(9, () -> bound(0), y -> y.bind(1, 0));
        });
        Sentences.promise(24, "LOOSE: the FINALE that it had (2; 8: it has none).", () -> {
            LastPages x = Rich.object();
            Checks.fine("loose", x, x.loose(1), 1);
            Checks.fine("none is bound", x, x.many(10), 0);
            LastPages z = bound(0);
            Checks.fine("finale 0, too", z, z.loose(0), 0);
            for (int off : new int[] {-1, 3, FAR[0], FAR[1]}) {
                Sentences.refused(2, Rich::object, y -> y.loose(off));
            }
            Sentences.refused(8, Rich::object, y -> y.loose(0));
            Sentences.refused(8, Rich::object, y -> y.loose(2));
        });
    }

    /** Two books that two finales fit, the first with this one. */
    private static LastPages bound(int finale) {
        LastPages x = Shelves.fits(2, 3, 3);
        x.bind(0, finale);
        return x;
    }

    private static void calling() {
        Sentences.promise(25, "A READER is called a LIAR, or believed (2; 9: it is so).", () -> {
            LastPages x = Rich.object();
            Checks.fine("a liar", x, x.call(0, true));
            Checks.fine("believed", x, x.call(1, false));
            Checks.fine("the first alone", x, x.many(11), 1);
            for (int off : new int[] {-1, 2, 32, 33, FAR[0], FAR[1]}) {
                Sentences.denied(2, Rich::object, y -> y.call(off, true));
                Sentences.denied(2, Rich::object, y -> y.call(off, false));
            }
            Sentences.denied(9, Rich::object, y -> y.call(0, false));
            Sentences.denied(9, Rich::object, y -> y.call(1, true));
        });
        Sentences.promise(25, "(What is BOUND stays.)", () -> {
            LastPages x = Rich.object();
            x.call(1, false);
            Checks.fine("it does not fit any more", x, x.fits(1, 1), 0);
            Checks.fine("it stays", x, x.book(1, 5), 1);
        });
    }

    private static void changing() {
        Sentences.promise(26, "A TURN is ODD by so much from now on (0 to 9) (2; 5).", () -> {
            LastPages x = Rich.object();
            Checks.fine("0", x, x.strange(0, 0));
            Checks.fine("0", x, x.odd(0), 0);
            Checks.fine("9", x, x.strange(2, 9));
            Checks.fine("9", x, x.odd(2), 9);
            for (int off : new int[] {-1, 3, FAR[0], FAR[1]}) {
                Sentences.denied(2, Rich::object, y -> y.strange(off, 1));
                Sentences.denied(2, Rich::object, y -> y.strange(off, 10));
            }
            for (int off : new int[] {-1, 10, FAR[0], FAR[1]}) {
                Sentences.denied(5, Rich::object, y -> y.strange(0, off));
            }
        });
        Sentences.promise(27, "A STATE is FINAL from now on, or not (2; 9: it is so).", () -> {
            LastPages x = Rich.object();
            Checks.fine("the last", x, x.close(2, true));
            Checks.fine("the first not", x, x.close(0, false));
            Checks.fine("the last alone", x, x.many(9), 4);
            for (int off : new int[] {-1, 3, 32, 33, FAR[0], FAR[1]}) {
                Sentences.denied(2, Rich::object, y -> y.close(off, true));
                Sentences.denied(2, Rich::object, y -> y.close(off, false));
            }
            Sentences.denied(9, Rich::object, y -> y.close(0, true));
            Sentences.denied(9, Rich::object, y -> y.close(1, false));
        });
        Sentences.promise(27, "(What is BOUND stays.)", () -> {
            LastPages x = Rich.object();
            x.close(0, false);
            Checks.fine("it does not fit any more", x, x.fits(1, 1), 0);
            Checks.fine("it stays", x, x.book(1, 5), 1);
        });
        Sentences.promise(28, "A RULE from now on: a TURN leads from a STATE to another one, or nowhere (NONE) (2).", () -> {
            LastPages x = Rich.object();
            Checks.fine("a new one", x, x.lead(2, 2, 0));
            Checks.fine("it leads", x, x.rule(2, 2), 0);
            Checks.fine("elsewhere", x, x.lead(2, 2, 2));
            Checks.fine("it leads", x, x.rule(2, 2), 2);
            Checks.fine("nowhere", x, x.lead(2, 2, -1));
            Checks.refused("no rule", x, x.rule(2, 2), 8);
            for (int off : new int[] {-1, 3, FAR[0], FAR[1]}) {
                Sentences.denied(2, Rich::object, y -> y.lead(off, 0, 0));
                Sentences.denied(2, Rich::object, y -> y.lead(0, off, 0));
            }
            for (int off : new int[] {-2, 3, FAR[0], FAR[1]}) {
                Sentences.denied(2, Rich::object, y -> y.lead(0, 0, off));
            }
        });
        Sentences.promise(28, "(What is BOUND stays.)", () -> {
            LastPages x = Rich.object();
            x.lead(1, 0, -1);
            Checks.fine("it does not fit any more", x, x.fits(1, 1), 0);
            Checks.fine("it stays", x, x.book(1, 5), 1);
        });
    }
}
