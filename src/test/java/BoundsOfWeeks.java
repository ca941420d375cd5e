/** The sentences of the Terms on weeks, draws, marks and fractions: each with its bounds. */
final class BoundsOfWeeks {
    /** Any of fa, fb, fc fits ba and bb; bc takes nothing. */
    private static final String THREE = "state s final;state p;turn t;turn u odd 4;turn v odd 2;rule s t to s;rule s "
        + "u to s;rule s v to s;"
        + "book ba from s misses 1;book bb from s misses 1;book bc from p misses 1;finale fa t;finale fb u;finale fc "
        + "v;reader r;reader q;";
    private static final String STEPS_298 = "loop 99;loose bc;loose bc;loose bc;end;";

    private BoundsOfWeeks() { }

    static void run() {
        texts();
        grammar();
        faults();
        stepsOfBooks();
        guesses();
        tests();
        limit();
        living();
        draws();
        marks();
        Sentences.terms("FRACTIONS are told by top() and bottom() without a common divisor, the bottom above 0; 0 is 0 by 1.",
            BoundsOfWeeks::fractions);
    }

    private static void right(String text) {
        Checks.rightWeeks(THREE, text);
    }

    private static void fault(String text, int kind, int at) {
        Checks.faultyWeeks("fault", THREE, text, kind, at);
    }

    private static LastPages lived(String weeks, int seed, int steps, int missed, int bound, int loosed, int guessed) {
        LastPages x = Checks.with(THREE);
        Checks.weeks(x, weeks);
        Checks.fine("steps of " + weeks, x, x.live(seed), steps);
        int[] due = {missed, bound, loosed, guessed};
        for (int what = 0; what < due.length; what++) {
            Checks.fine("lived " + what + " of " + weeks, x, x.lived(what), due[what]);
        }
        return x;
    }

    private static void texts() {
        Sentences.terms("WEEKS are a TEXT of at most 300 bytes, of such TOKENS", () -> {
            String text = "stop;" + " ".repeat(290) + "stop;";
            LastPages x = Checks.with(THREE);
            Checks.fine("300 bytes, of which the last counts", x, Checks.weeks(x, text), 2);
            Checks.feed(x, text);
            Checks.refused("299, so that the last step breaks off", x, x.weeks(299), 10);
            Checks.due("at the end", x.fault(1), 299);
            Checks.feed(x, text + "stop;");
            Checks.refused("301", x, x.weeks(301), 5);
            Checks.refused("305", x, x.weeks(305), 5);
            right("loop 2;when left<9;\n\nstop;end;end ;\n");
            fault("stop\t;", 1, 4);
            fault("Stop;", 1, 0);
            fault("loop 00002;end;", 1, 5);
            fault("loop 2;end:", 1, 10);
        });
        Sentences.terms("(none at first).", () -> {
            LastPages x = new LastPages();
            Checks.refused("a new object", x, x.live(0), 8);
            LastPages y = Checks.with(THREE);
            Checks.refused("a new shelf", y, y.live(0), 8);
            Checks.refused("a new shelf", y, y.mean(0, 1), 8);
        });
        Sentences.terms("WEEKS: {STEP}.", () -> {
            LastPages x = Checks.with(THREE);
            Checks.fine("no step", x, Checks.weeks(x, ""), 0);
            Checks.fine("blanks", x, Checks.weeks(x, " \n"), 0);
            Checks.fine("one", x, Checks.weeks(x, "stop;"), 1);
            Checks.fine("thirty", x, Checks.weeks(x, "stop;".repeat(30)), 30);
            fault(";", 2, 0);
            fault("done ba;", 2, 0);
            fault("state z;", 2, 0);
            fault("5;", 2, 0);
        });
    }

    /** Steps that are right, with a fault where they break off, be it by the end or by what can't stand there. */
    private static void step(String quote, String... forms) {
        Sentences.terms(quote, () -> {
            for (String form : forms) {
                right(form);
                String[] token = form.split(" ");
                StringBuilder ahead = new StringBuilder(token[0]);
                for (int i = 1; i < token.length; i++) {
                    fault(ahead.toString(), 2, ahead.length());
                    fault(ahead + " rule ;", 2, ahead.length() + 1);
                    fault(ahead + " abcdefghi ;", 2, ahead.length() + 1);
                    fault(ahead + " ? ;", 1, ahead.length() + 1);
                    ahead.append(' ').append(token[i]);
                }
            }
        });
    }

    private static void grammar() {
        step("STEP: bind NAME NAME ;", "bind ba fa ;");
        step("or loose NAME ;", "loose ba ;");
        step("or call NAME ;", "call r ;");
        step("or guess NAME ;", "guess ba ;");
        step("or when TEST ; {STEP} end ;", "when done ba ; end ;", "when done ba ; stop ; loose ba ; end ;");
        step("or loop NUMBER ; {STEP} end ;", "loop 3 ; end ;", "loop 3 ; stop ; loop 2 ; end ; end ;");
        step("or stop ;", "stop ;");
        step("TEST: done NAME,", "when done bc ; end ;");
        step("or left COMPARES NUMBER,", "when left < 3 ; end ;", "when left > 3 ; end ;", "when left = 3 ; end ;");
        step("or odd NAME COMPARES NUMBER.", "when odd ba < 3 ; end ;", "when odd ba > 3 ; end ;", "when odd ba = 3 ; end ;");
        Sentences.terms("COMPARES: < or > or =", () -> {
            fault("when left ; 3;end;", 2, 10);
            fault("when left 3;end;", 2, 10);
            fault("when left < = 3;end;", 2, 12);
            fault("when left <> 3;end;", 2, 11);
            for (int left = 2; left <= 4; left++) {
                holds("", "left < " + left, 3 < left);
                holds("", "left > " + left, 3 > left);
                holds("", "left = " + left, 3 == left);
            }
        });
    }

    private static void faults() {
        Sentences.terms("FAULTS: 1, 2 as above (an end without a beginning;", () -> {
            fault("end;", 2, 0);
            fault("stop;end;", 2, 5);
            fault("loop 2;end;end;", 2, 11);
            fault("loop 2;loop 2;loop 2;end;end;end; end;", 2, 34);
            fault("stop;".repeat(30) + "end;", 2, 150);
        });
        Sentences.terms("the text's end ahead of an end: 2).", () -> {
            fault("loop 2;", 2, 7);
            fault("when done ba; ", 2, 14);
            fault("loop 2;loop 2;loop 2;end;end; \n", 2, 31);
            fault("loop 2;end", 2, 10);
            String text = "loop 2;" + " ".repeat(293);
            fault(text, 2, 300);
        });
        Sentences.terms("3 a NAME that is no such one (a BOOK and a FINALE; a BOOK; a READER behind call).", () -> {
            for (String other : "s t fa r z".split(" ")) {
                fault("bind " + other + " fa;", 3, 5);
                fault("loose " + other + ";", 3, 6);
                fault("guess " + other + ";", 3, 6);
                fault("when done " + other + ";end;", 3, 10);
                fault("when odd " + other + " = 1;end;", 3, 9);
            }
            for (String other : "s t ba r z".split(" ")) {
                fault("bind ba " + other + ";", 3, 8);
            }
            for (String other : "s t ba fa z".split(" ")) {
                fault("call " + other + ";", 3, 5);
            }
            LastPages x = new LastPages();
            Checks.refused("no shelf, no names", x, Checks.weeks(x, "loose ba;"), 10);
            Checks.due("kind", x.fault(0), 3);
        });
        Sentences.terms("4 a NUMBER that can't be. 6", () -> {
            fault("loop 0;end;", 4, 5);
            fault("loop 100;end;", 4, 5);
            fault("loop 9999;end;", 4, 5);
            fault("when left = 10;end;", 4, 12);
            fault("when odd ba = 100;end;", 4, 14);
        });
        Sentences.terms("6 a 31st STEP (at its WORD; end is none).", () -> {
            right("stop;".repeat(30));
            for (String more : "stop; bind loose call guess when loop".split(" ")) {
                fault("stop;".repeat(30) + " " + more, 6, 151);
            }
            right("loop 2;end;".repeat(20) + "stop;".repeat(10));
            fault("loop 2;end;".repeat(20) + "stop;".repeat(10) + "stop;", 6, 270);
            right("when left<9;" + "stop;".repeat(29) + "end;");
            fault("when left<9;" + "stop;".repeat(29) + "stop;end;", 6, 157);
            fault("stop;".repeat(30) + "go;", 2, 150);
            fault("stop;".repeat(30) + "?;", 1, 150);
        });
        Sentences.terms("7 a when, loop within three others (at its WORD).", () -> {
            right("loop 1;loop 1;when done ba;stop;end;end;end;");
            fault("loop 1;loop 1;when done ba;loop 1;end;end;end;end;", 7, 27);
            fault("when done ba;loop 1;loop 1;when done ba;", 7, 27);
            fault("loop 1;loop 1;loop 1;loop ?", 7, 21);
            right("loop 1;loop 1;loop 1;end;loop 1;end;end;loop 1;loop 1;end;end;end;");
            LastPages x = Checks.with(THREE);
            Checks.refused("a fault within three", x, Checks.weeks(x, "loop 1;loop 1;loop 1;?"), 10);
            Checks.fine("three again", x, Checks.weeks(x, "loop 1;loop 1;loop 1;end;end;end;"), 3);
            fault("stop;".repeat(27) + "loop 1;loop 1;loop 1;loop 1;", 6, 156);
            fault("stop;".repeat(26) + "loop 1;loop 1;loop 1;loop 1;", 7, 151);
        });
    }

    private static void stepsOfBooks() {
        Sentences.terms("bind: a BOOK, a FINALE;", () -> {
            LastPages x = lived("bind ba fc;", 0, 1, 0, 1, 0, 0);
            Checks.fine("bound", x, x.book(0, 5), 2);
        });
        Sentences.terms("call: a READER is called a LIAR, or believed, if he was;", () -> {
            Checks.due("once", lived("call q;", 0, 1, 0, 0, 0, 0).many(11), 2);
            Checks.due("twice", lived("call q;call q;", 0, 2, 0, 0, 0, 0).many(11), 0);
            LastPages x = Checks.with(Rich.SHELF);
            Checks.weeks(x, "bind bb fb;call rb;bind bb fb;loose bb;call rb;bind bb fb;");
            Checks.fine("six", x, x.live(0), 6);
            Checks.fine("it fits without his hints alone", x, x.lived(0), 2);
            Checks.due("99 times", lived("loop 99;call r;end;call q;", 0, 101, 0, 0, 0, 0).many(11), 3);
        });
        Sentences.terms("What can't be is MISSED: a bind, a loose that can't be,", () -> {
            lived("loose ba;", 0, 1, 1, 0, 0, 0);
            lived("bind bc fa;", 0, 1, 1, 0, 0, 0);
            LastPages x = lived("bind ba fa;bind ba fb;bind bb fa;loose ba;loose ba;", 0, 5, 3, 1, 1, 0);
            Checks.fine("nothing is bound", x, x.many(10), 0);
        });
    }

    private static int follower(int s) {
        return (int) ((s * 2971L + 10687L) % 65536L);
    }

    /** Of the numbers in a set the one behind so many. */
    private static int numberedIn(int set, int skipped) {
        int rest = set;
        for (int i = 0; i < skipped; i++) {
            rest &= rest - 1;
        }
        return Integer.numberOfTrailingZeros(rest);
    }

    private static void guesses() {
        Sentences.terms("guess: a FINALE for a BOOK by a draw by how many FINALES FIT it that are in no BOOK, by "
            + "numbers: it is BOUND.", () -> {
            for (int seed : new int[] {0, 1, 2, 3, 4, 5, 6, 7, 8, 9998, 9999}) {
                int s = follower(seed);
                LastPages x = lived("guess ba;", seed, 1, 0, 1, 0, 1);
                Checks.fine("by three, seed " + seed, x, x.book(0, 5), s / 8 % 3);
                x = lived("bind bb fb;guess ba;", seed, 2, 0, 2, 0, 1);
                Checks.fine("by two, seed " + seed, x, x.book(0, 5), s / 8 % 2 == 0 ? 0 : 2);
            }
            LastPages y = Shelves.fits(8, 0, 255, 255, 255, 255, 0);
            Checks.weeks(y, "guess be;guess bd;guess bc;guess bb;guess bf;guess ba;");
            Checks.fine("steps", y, y.live(77), 6);
            int s = 77;
            int free = 255;
            for (int book = 4; book >= 1; book--) {
                s = follower(s);
                int due = numberedIn(free, s / 8 % Integer.bitCount(free));
                Checks.fine("book " + book, y, y.book(book, 5), due);
                free &= ~(1 << due);
            }
        });
        Sentences.terms("a guess of a BOOK that has one,", () -> {
            LastPages x = lived("bind ba fb;guess ba;", 0, 2, 1, 1, 0, 0);
            Checks.fine("the one it had", x, x.book(0, 5), 1);
        });
        Sentences.terms("or without such FINALES (no draw).", () -> {
            int s = follower(follower(5));
            LastPages x = lived("guess bc;guess ba;guess ba;guess bc;guess bb;", 5, 5, 3, 2, 0, 2);
            int first = follower(5) / 8 % 3;
            int second = s / 8 % 2;
            Checks.fine("the first draw by three", x, x.book(0, 5), first);
            Checks.fine("the second draw by two", x, x.book(1, 5), second < first ? second : second + 1);
            LastPages y = Shelves.fits(1, 1, 1);
            Checks.weeks(y, "guess ba;guess bb;");
            Checks.fine("two guesses", y, y.live(0), 2);
            Checks.fine("the other has the only one", y, y.lived(0), 1);
        });
    }

    /** Whether the step within a when is done. */
    private static void holds(String first, String test, boolean is) {
        LastPages x = Checks.with(THREE);
        Checks.weeks(x, first + "when " + test + ";call r;end;call q;");
        x.live(0);
        Checks.due("when " + test + " behind " + first, x.many(11), is ? 3 : 2);
    }

    private static void tests() {
        Sentences.terms("when done: the BOOK has a FINALE;", () -> {
            holds("", "done ba", false);
            holds("bind ba fa;", "done ba", true);
            holds("bind ba fa;", "done bb", false);
            holds("bind ba fa;loose ba;", "done ba", false);
        });
        Sentences.terms("left: so many BOOKS have none (0 to 9);", () -> {
            holds("", "left = 3", true);
            holds("bind ba fa;bind bb fb;", "left = 1", true);
            holds("", "left < 0", false);
            holds("", "left > 0", true);
            holds("", "left < 9", true);
            holds("", "left > 9", false);
            fault("when left < 10;end;", 4, 12);
            LastPages x = Checks.with("reader r;");
            Checks.weeks(x, "when left = 0;call r;end;");
            Checks.fine("no books", x, x.live(0), 2);
        });
        Sentences.terms("odd: ODDNESS of its FINALE (0 to 99; 0 without one).", () -> {
            holds("", "odd ba = 0", true);
            holds("bind bb fb;", "odd ba = 0", true);
            holds("bind ba fb;", "odd ba = 4", true);
            holds("bind ba fb;", "odd ba > 3", true);
            holds("bind ba fb;", "odd ba > 4", false);
            holds("bind ba fb;", "odd ba < 99", true);
            holds("bind ba fb;", "odd ba > 99", false);
            holds("bind ba fb;", "odd ba < 0", false);
            right("when odd ba = 99;end;when odd ba = 0;end;");
            fault("when odd ba = 100;end;", 4, 14);
        });
        Sentences.terms("loop n (1 to 99): as often.", () -> {
            lived("loop 1;loose ba;end;", 0, 2, 1, 0, 0, 0);
            lived("loop 2;loose ba;end;", 0, 3, 2, 0, 0, 0);
            lived("loop 99;loose ba;end;", 0, 100, 99, 0, 0, 0);
            lived("loop 99;end;loose ba;", 0, 2, 1, 0, 0, 0);
            lived("loop 3;loop 2;loose ba;end;loose bb;end;", 0, 13, 9, 0, 0, 0);
            fault("loop 0;end;", 4, 5);
            fault("loop 100;end;", 4, 5);
        });
    }

    private static void cutOff(String weeks, int steps, int missed, int cut) {
        LastPages x = Checks.with(THREE);
        Checks.weeks(x, weeks);
        Checks.fine("steps of " + weeks, x, x.live(0), steps);
        Checks.fine("missed of " + weeks, x, x.lived(0), missed);
        Checks.fine("left to be done of " + weeks, x, x.lived(4), cut);
    }

    private static void limit() {
        Sentences.terms("At most 300 STEPS", () -> {
            cutOff(STEPS_298 + "loose bc;", 299, 298, 0);
            cutOff(STEPS_298 + "loose bc;loose bc;", 300, 299, 0);
            cutOff(STEPS_298 + "loose bc;loose bc;loose bc;", 300, 299, 1);
            cutOff("loop 99;loose bc;loose bc;loose bc;loose bc;end;", 300, 299, 1);
            cutOff("loop 99;loop 99;loop 99;loose bc;end;end;end;", 300, 295, 1);
            cutOff(STEPS_298 + "loose bc;stop;loose bc;", 300, 298, 0);
            LastPages x = Checks.with(THREE);
            Checks.weeks(x, STEPS_298 + "loose bc;loose bc;bind ba fa;");
            x.live(0);
            Checks.fine("the 301st is not done", x, x.many(10), 0);
        });
        Sentences.terms("(when, loop count as one each time they are come to from ahead; end does not).", () -> {
            lived("when done ba;loose ba;end;", 0, 1, 0, 0, 0, 0);
            lived("when left = 3;loose ba;end;", 0, 2, 1, 0, 0, 0);
            lived("loop 5;end;", 0, 1, 0, 0, 0, 0);
            lived("loop 5;when done ba;end;end;", 0, 6, 0, 0, 0, 0);
            lived("loop 5;loop 7;end;end;", 0, 6, 0, 0, 0, 0);
            lived("loop 3;loop 3;loop 3;end;end;end;", 0, 13, 0, 0, 0, 0);
            cutOff(STEPS_298 + "loose bc;when left = 3;end;", 300, 298, 0);
            cutOff(STEPS_298 + "loose bc;when left = 0;loose bc;end;", 300, 298, 0);
            cutOff(STEPS_298 + "loose bc;when left = 3;loose bc;end;", 300, 298, 1);
            cutOff(STEPS_298 + "loose bc;loop 99;end;", 300, 298, 0);
            cutOff("loop 99;loop 99;loop 99;end;end;end;", 300, 0, 1);
        });
    }

    private static void living() {
        Sentences.terms("LIVED by a seed (0 to 9,999):", () -> {
            LastPages x = Checks.with(THREE);
            Checks.weeks(x, "guess ba;");
            Checks.refused("below", x, x.live(-1), 5);
            Checks.refused("above", x, x.live(10000), 5);
            Checks.fine("the first", x, x.live(0), 1);
            Checks.fine("the last", x, x.live(9999), 1);
        });
        Sentences.terms("all is as it becomes by it, and stays so.", () -> {
            LastPages x = lived("bind ba fa;call r;", 0, 2, 0, 1, 0, 0);
            Checks.fine("bound", x, x.many(10), 1);
            Checks.fine("a liar", x, x.many(11), 1);
            Checks.fine("again", x, x.live(0), 2);
            Checks.fine("missed now", x, x.lived(0), 1);
            Checks.fine("believed now", x, x.many(11), 0);
        });
    }

    private static void draws() {
        Sentences.terms("Draws: s, at first the seed, becomes what is left of s times 2,971 and 10,687 by 65,536;", () -> {
            // 9,999 times 2,971 and 10,687 is far above 65,536: what is left of it is 29,908.
            Checks.due("a wrap-around", follower(9999), 29908);
            for (int seed : new int[] {0, 1, 123, 9998, 9999}) {
                for (int rounds : new int[] {1, 2, 3, 50, 98, 99}) {
                    LastPages x = Checks.with(THREE);
                    Checks.weeks(x, "loop " + rounds + ";loose ba;guess ba;end;");
                    Checks.fine("steps", x, x.live(seed), 1 + 2 * rounds);
                    int s = seed;
                    for (int i = 0; i < rounds; i++) {
                        s = follower(s);
                    }
                    Checks.fine("draw " + rounds + " of seed " + seed, x, x.book(0, 5), s / 8 % 3);
                }
            }
        });
        Sentences.terms("the draw by n is the rest of s by 8, rounded down, by n.", () -> {
            for (int n = 1; n <= 8; n++) {
                for (int seed : new int[] {0, 9, 4711, 9999}) {
                    LastPages x = Shelves.fits(8, (1 << n) - 1 << 8 - n);
                    Checks.weeks(x, "guess ba;");
                    Checks.fine("one step", x, x.live(seed), 1);
                    Checks.fine("by " + n + ", seed " + seed, x, x.book(0, 5), 8 - n + follower(seed) / 8 % n);
                }
            }
        });
    }

    private static void marks() {
        Sentences.terms("MARKS, at most 3:", () -> {
            LastPages x = Checks.with(THREE);
            for (int i = 1; i <= 3; i++) {
                Checks.fine("mark", x, x.mark(), i);
            }
            Checks.refused("a fourth", x, x.mark(), 7);
            Checks.fine("back", x, x.back(), 2);
            Checks.fine("a third again", x, x.mark(), 3);
            Checks.refused("a fourth", x, x.mark(), 7);
        });
        Sentences.terms("the SHELF with all that became of it, the WEEKS are kept as they are;", () -> {
            LastPages x = Rich.object();
            x.mark();
            x.loose(1);
            x.call(1, false);
            x.call(0, true);
            x.strange(0, 9);
            x.close(0, false);
            x.lead(0, 0, -1);
            Checks.shelf(x, "state zz;turn yy;");
            Checks.weeks(x, "stop;");
            x.back();
            Checks.same("as without all this", Seen.butTexts(x), Seen.butTexts(Rich.object()));
            LastPages y = new LastPages();
            y.mark();
            Checks.shelf(y, Rich.SHELF);
            y.back();
            Checks.same("a shelf of nothing", Seen.butTexts(y), Seen.butTexts(new LastPages()));
            LastPages z = Rich.plain();
            z.mark();
            z.shelf(0);
            z.back();
            Checks.same("as without a mark", Seen.butTexts(z), Seen.butTexts(Rich.plain()));
            fullMarks();
        });
        Sentences.terms("all is taken back to the latest MARK, which is gone then.", () -> {
            LastPages x = Checks.with(THREE);
            for (int i = 0; i < 3; i++) {
                x.strange(0, i);
                x.mark();
            }
            x.strange(0, 9);
            for (int i = 2; i >= 0; i--) {
                Checks.fine("how many are left", x, x.back(), i);
                Checks.fine("the latest", x, x.odd(0), i);
            }
            Checks.refused("none is left", x, x.back(), 8);
            Checks.fine("as it was", x, x.odd(0), 0);
        });
    }

    private static void fullMarks() {
        LastPages x = Checks.with(Full.rows());
        x.mark();
        Checks.fine("another shelf", x, Checks.shelf(x, Full.names()), 6);
        for (int i = 0; i < 64; i++) {
            x.lead(i / 8, i % 8, 7);
        }
        String weeks = "loop 2;when left>5;guess v;end;when odd v<2;loose v;end;end;bind q zd;call zj;stop;";
        Checks.weeks(x, weeks);
        x.mark();
        Checks.shelf(x, "");
        Checks.weeks(x, "stop;".repeat(30));
        Checks.fine("back to fifty names", x, x.back(), 1);
        Checks.fine("the last rule", x, x.rule(7, 7), 7);
        Checks.fine("the last turn", x, x.finale(7, 1), 7);
        Checks.fine("steps", x, x.live(0), 12);
        int[] lived = {0, 3, 2, 2, 0};
        for (int what = 0; what < 5; what++) {
            Checks.fine("lived " + what, x, x.lived(what), lived[what]);
        }
        Checks.fine("a liar", x, x.many(11), 32);
        Checks.fine("a finale in the first book", x, x.book(0, 5), 7);
        Checks.fine("names", x, Checks.weeks(x, "loose q;call zj;bind v zd;call ze;"), 4);
        x.live(0);
        Checks.fine("the last finale in the last book", x, x.book(5, 5), 7);
        Checks.fine("the first reader", x, x.many(11), 1);
        Checks.fine("back to full rows", x, x.back(), 0);
        Checks.fine("the last page", x, x.page(5, 9), 1);
        Checks.fine("the last turn", x, x.finale(7, 6), 1);
        Checks.fine("the last hint", x, x.hint(11, 1), 6);
        Checks.fine("names", x, Checks.weeks(x, "bind kf fh;call r;"), 2);
    }

    private static void fractions() {
        LastPages x = Checks.with(THREE + "hint ba at 1 is t by r;");
        Checks.fraction("at first", x, 0, 1);
        x.chance(1, 1, 0);
        Checks.fraction("one of three", x, 1, 3);
        x.chance(0, 1, 0);
        Checks.fraction("one of one", x, 1, 1);
        x.chance(0, 1, 1);
        Checks.fraction("none of one", x, 0, 1);
        x.chance(1, 1, 0);
        Checks.weeks(x, "");
        x.mean(0, 20);
        Checks.fraction("0 by 20", x, 0, 1);
        Checks.weeks(x, "guess ba;guess bb;");
        x.mean(0, 20);
        Checks.fraction("40 by 20", x, 2, 1);
        LastPages y = Checks.with(Shelves.free(6, "book k from s misses 6;reader r;hint k at 1 is a by r;"));
        y.chance(0, 2, 5);
        Checks.fraction("1,296 of 7,776", y, 1, 6);
    }
}
