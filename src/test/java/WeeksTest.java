/** Promises 11 and 56 to 58: weeks, their faults, and what becomes by them. */
public final class WeeksTest {
    /** Book ba takes any of fa, fb, fc; bb takes fd alone; bc nothing. */
    private static final String THREE = "state s final;state p;turn t;turn u odd 4;turn v odd 2;turn w odd 7;turn x;"
        + "rule s t to s;rule s u to s;rule s v to s;rule p w to s;"
        + "book ba from s misses 1;book bb from p misses 1;book bc from p misses 1 x;"
        + "finale fa t;finale fb u;finale fc v;finale fd w;reader r;reader q;hint bb at 1 is t by q;";

    public static void main(String[] args) {
        taking();
        faults();
        steps();
        tests();
        loops();
        guesses();
        limit();
        asking();
        means();
        Checks.end();
    }

    private static void taking() {
        LastPages x = Checks.with(THREE);
        Checks.fine("11 how many steps", x, Checks.weeks(x, "bind ba fa;loop 2;when left < 3;stop;end;end;"), 4);
        Checks.refused("11 the tape is empty", x, x.weeks(1), 5);
        Checks.refused("11 below 0", x, x.weeks(-1), 5);
        Checks.feed(x, " ".repeat(320));
        Checks.refused("11 above 300", x, x.weeks(301), 5);
        Checks.due("11 the tape stays", x.feed(0, 0, 0, 0, 0), 340);
        Checks.fine("11 three hundred blanks", x, x.weeks(300), 0);
        Checks.refused("11 the tape is empty", x, x.weeks(1), 5);
        Checks.fine("56 weeks of nothing", x, x.live(0), 0);
        Checks.fine("11 two", x, Checks.weeks(x, "stop;stop;"), 2);
        Checks.refused("11 a fault", x, Checks.weeks(x, "stop"), 10);
        Checks.refused("11 the tape is empty then, too", x, x.weeks(1), 5);
        Checks.fine("11 the old ones stay", x, x.live(0), 1);
        x.bind(0, 0);
        Checks.weeks(x, "loose ba;");
        Checks.fine("11 what is bound stays", x, x.many(10), 1);
        LastPages y = new LastPages();
        Checks.refused("56 no weeks", y, y.live(5), 8);
        Checks.fine("11 without a shelf", y, Checks.weeks(y, "loop 3;end;stop;"), 2);
        Checks.fine("56 without a shelf", y, y.live(5), 2);
    }

    private static void faults() {
        Checks.faultyWeeks("1", THREE, "stop;?", 1, 5);
        Checks.faultyWeeks("1", THREE, "loop 00001;end;", 1, 5);
        Checks.faultyWeeks("1", THREE, "when left ! 1;end;", 1, 10);
        Checks.faultyWeeks("2", THREE, "go;", 2, 0);
        Checks.faultyWeeks("2", THREE, ";", 2, 0);
        Checks.faultyWeeks("2", THREE, "state s;", 2, 0);
        Checks.faultyWeeks("2", THREE, "done ba;", 2, 0);
        Checks.faultyWeeks("2", THREE, "stop stop;", 2, 5);
        Checks.faultyWeeks("2 the end", THREE, "stop ", 2, 5);
        Checks.faultyWeeks("2", THREE, "bind;", 2, 4);
        Checks.faultyWeeks("2", THREE, "bind ba;", 2, 7);
        Checks.faultyWeeks("2", THREE, "bind ba fa fb;", 2, 11);
        Checks.faultyWeeks("2", THREE, "bind ba abcdefghi;", 2, 8);
        Checks.faultyWeeks("2", THREE, "loose;", 2, 5);
        Checks.faultyWeeks("2", THREE, "loose ba fa;", 2, 9);
        Checks.faultyWeeks("2", THREE, "call 1;", 2, 5);
        Checks.faultyWeeks("2", THREE, "guess end;", 2, 6);
        Checks.faultyWeeks("2", THREE, "when ba;end;", 2, 5);
        Checks.faultyWeeks("2", THREE, "when;end;", 2, 4);
        Checks.faultyWeeks("2", THREE, "when done;end;", 2, 9);
        Checks.faultyWeeks("2", THREE, "when done ba = 1;end;", 2, 13);
        Checks.faultyWeeks("2", THREE, "when left ba < 1;end;", 2, 10);
        Checks.faultyWeeks("2", THREE, "when left ; 1;end;", 2, 10);
        Checks.faultyWeeks("2", THREE, "when left <;end;", 2, 11);
        Checks.faultyWeeks("2", THREE, "when left < = 1;end;", 2, 12);
        Checks.faultyWeeks("2", THREE, "when odd < 1;end;", 2, 9);
        Checks.faultyWeeks("2", THREE, "when odd ba 1;end;", 2, 12);
        Checks.faultyWeeks("2", THREE, "when odd ba <;end;", 2, 13);
        Checks.faultyWeeks("2", THREE, "loop;end;", 2, 4);
        Checks.faultyWeeks("2", THREE, "loop ba;end;", 2, 5);
        Checks.faultyWeeks("2", THREE, "loop 2 2;end;", 2, 7);
        Checks.faultyWeeks("2 no beginning", THREE, "end;", 2, 0);
        Checks.faultyWeeks("2 no beginning", THREE, "loop 2;end;end;", 2, 11);
        Checks.faultyWeeks("2 no end", THREE, "loop 2;stop;", 2, 12);
        Checks.faultyWeeks("2 no end", THREE, "loop 2;when left = 0;end; ", 2, 26);
        Checks.faultyWeeks("2", THREE, "loop 2;end", 2, 10);
        Checks.faultyWeeks("2", THREE, "loop 2;end stop;", 2, 11);
        String[] broken = {"bind", "bind ba", "bind ba fa", "loose", "loose ba", "call", "call r", "guess", "guess ba", "when",
            "when done", "when done ba", "when left", "when left <", "when left < 1", "when odd", "when odd ba",
            "when odd ba =", "when odd ba = 1", "loop", "loop 3", "stop", "loop 3;end"};
        for (String step : broken) {
            Checks.faultyWeeks("2", THREE, step + " stop;end;", 2, step.length() + 1);
        }
        Checks.faultyWeeks("3", THREE, "bind fa fa;", 3, 5);
        Checks.faultyWeeks("3", THREE, "bind ba ba;", 3, 8);
        Checks.faultyWeeks("3", THREE, "bind nobody fa;", 3, 5);
        Checks.faultyWeeks("3", THREE, "loose fa;", 3, 6);
        Checks.faultyWeeks("3", THREE, "call ba;", 3, 5);
        Checks.faultyWeeks("3", THREE, "call s;", 3, 5);
        Checks.faultyWeeks("3", THREE, "guess r;", 3, 6);
        Checks.faultyWeeks("3", THREE, "when done fa;end;", 3, 10);
        Checks.faultyWeeks("3", THREE, "when odd t < 1;end;", 3, 9);
        Checks.faultyWeeks("4", THREE, "loop 0;end;", 4, 5);
        Checks.faultyWeeks("4", THREE, "loop 100;end;", 4, 5);
        Checks.faultyWeeks("4", THREE, "when left < 10;end;", 4, 12);
        Checks.faultyWeeks("4", THREE, "when odd ba < 100;end;", 4, 14);
        Checks.rightWeeks(THREE, "loop 1;end;loop 99;end;when left=0;end;when left>9;end;when odd ba<0;end;when odd bb=99;end;");
        Checks.rightWeeks(THREE, "loop 1;when done ba;loop 2;stop;end;end;end;");
        Checks.faultyWeeks("7", THREE, "loop 1;when done ba;loop 2;loop 3;", 7, 27);
        Checks.faultyWeeks("7", THREE, "loop 1;loop 1;loop 2;when done ba;", 7, 21);
        Checks.rightWeeks(THREE, "loop 1;loop 1;loop 2;end;loop 2;end;end;loop 2;loop 3;end;end;end;");
        Checks.rightWeeks(THREE, "stop;".repeat(30));
        Checks.faultyWeeks("6", THREE, "stop;".repeat(30) + "stop;", 6, 150);
        Checks.rightWeeks(THREE, "loop 1;stop;end;".repeat(15));
        Checks.faultyWeeks("6 end is none", THREE, "loop 1;stop;end;".repeat(15) + "when left < 1;end;", 6, 240);
        Checks.faultyWeeks("6 is less than 7", THREE, "stop;".repeat(27) + "loop 1;loop 1;loop 1;loop 1;", 6, 156);
        Checks.faultyWeeks("2 is less than 6", THREE, "stop;".repeat(30) + "go;", 2, 150);
        Checks.faultyWeeks("2 an end is no step but has no beginning", THREE, "stop;".repeat(30) + "end;", 2, 150);
        Checks.faultyWeeks("the first along the text", THREE, "call ba;?", 3, 5);
    }

    /** A new object that has lived through some weeks, asked for its steps and all tallies. */
    private static LastPages lived(String weeks, int seed, int steps, int missed, int bound, int loosed, int guessed, int cut) {
        LastPages x = Checks.with(THREE);
        Checks.weeks(x, weeks);
        Checks.fine("56 " + weeks, x, x.live(seed), steps);
        int[] due = {missed, bound, loosed, guessed, cut};
        for (int what = 0; what < 5; what++) {
            Checks.fine("57 " + what + " " + weeks, x, x.lived(what), due[what]);
        }
        return x;
    }

    private static void steps() {
        LastPages x = lived("bind ba fb;", 0, 1, 0, 1, 0, 0, 0);
        Checks.fine("56 it stays so", x, x.book(0, 5), 1);
        lived("bind ba fd;", 0, 1, 1, 0, 0, 0, 0);
        lived("bind ba fa;bind ba fb;", 0, 2, 1, 1, 0, 0, 0);
        x = lived("bind ba fa;loose ba;bind ba fb;loose bb;", 0, 4, 1, 2, 1, 0, 0);
        Checks.fine("56", x, x.book(0, 5), 1);
        lived("bind bb fd;", 0, 1, 1, 0, 0, 0, 0);
        x = lived("bind bb fd;call q;bind bb fd;call q;", 0, 4, 1, 1, 0, 0, 0);
        Checks.fine("56 believed again", x, x.many(11), 0);
        Checks.fine("56 what is bound stays", x, x.many(10), 2);
        x = lived("call r;call q;call r;", 0, 3, 0, 0, 0, 0, 0);
        Checks.fine("56 the liar", x, x.many(11), 2);
        x = lived("bind ba fa;stop;loose ba;", 0, 2, 0, 1, 0, 0, 0);
        Checks.fine("56 behind the stop nothing is done", x, x.many(10), 1);
        // What was done to the shelf itself counts ahead of the weeks, and weeks can be lived again.
        LastPages y = Checks.with(THREE);
        y.bind(0, 2);
        Checks.weeks(y, "loose ba;");
        Checks.fine("56", y, y.live(0), 1);
        Checks.fine("57 loosed", y, y.lived(2), 1);
        Checks.fine("56 again", y, y.live(0), 1);
        Checks.fine("57 missed now", y, y.lived(0), 1);
        Checks.fine("57 not loosed now", y, y.lived(2), 0);
    }

    /** Whether the step within a when is done. */
    private static void holds(String first, String test, boolean is) {
        LastPages x = Checks.with(THREE);
        Checks.weeks(x, first + "when " + test + ";call r;end;call q;");
        x.live(0);
        Checks.due("56 when " + test + " behind " + first, x.many(11), is ? 3 : 2);
    }

    private static void tests() {
        holds("", "done ba", false);
        holds("bind ba fa;", "done ba", true);
        holds("bind ba fa;", "done bb", false);
        int[] left = {2, 3, 4};
        for (int n : left) {
            holds("", "left < " + n, 3 < n);
            holds("", "left > " + n, 3 > n);
            holds("", "left = " + n, 3 == n);
            holds("bind ba fa;", "left = " + n, 2 == n);
            holds("bind ba fb;", "odd ba < " + (n + 1), 4 < n + 1);
            holds("bind ba fb;", "odd ba > " + (n + 1), 4 > n + 1);
            holds("bind ba fb;", "odd ba = " + (n + 1), 4 == n + 1);
        }
        holds("", "odd ba = 0", true);
        holds("", "odd ba > 0", false);
        holds("bind ba fc;", "odd bb = 0", true);
        holds("bind ba fc;", "odd ba = 2", true);
        lived("when done ba;bind ba fa;end;", 0, 1, 0, 0, 0, 0, 0);
        lived("when left = 3;bind ba fa;end;", 0, 2, 0, 1, 0, 0, 0);
        lived("when left = 3;when done ba;stop;end;bind ba fa;end;loose ba;", 0, 4, 0, 1, 1, 0, 0);
        lived("when done ba;when left = 3;stop;end;bind ba fa;end;loose ba;", 0, 2, 1, 0, 0, 0, 0);
    }

    private static void loops() {
        lived("loop 3;bind ba fa;loose ba;end;", 0, 7, 0, 3, 3, 0, 0);
        lived("loop 1;loose ba;end;loose ba;", 0, 3, 2, 0, 0, 0, 0);
        lived("loop 2;loop 3;loose ba;end;loose ba;end;", 0, 1 + 2 * (1 + 3 + 1), 8, 0, 0, 0, 0);
        lived("loop 99;end;loose ba;", 0, 2, 1, 0, 0, 0, 0);
        lived("loop 9;loop 9;loop 2;end;end;end;", 0, 1 + 9 + 81, 0, 0, 0, 0, 0);
        lived("loop 5;when done ba;stop;end;bind ba fa;end;", 0, 1 + 2 + 2, 0, 1, 0, 0, 0);
        lived("loop 2;when done ba;loose ba;end;loop 2;bind ba fa;end;end;", 0, 1 + 4 + 5, 2, 2, 1, 0, 0);
    }

    /** The draw by a seed is 8th part of its first follower; what is drawn by three: 0, 0, 2, 2, 1. */
    private static void guesses() {
        int[] drawn = {0, 0, 2, 2, 1};
        for (int seed = 0; seed < drawn.length; seed++) {
            LastPages x = lived("guess ba;", seed, 1, 0, 1, 0, 1, 0);
            Checks.fine("56 guess by " + seed, x, x.book(0, 5), drawn[seed]);
        }
        // 9999 * 2971 + 10687 leaves 29908 by 65536, whose 8th part is 3738, which leaves 0 by 3.
        LastPages x = lived("guess ba;", 9999, 1, 0, 1, 0, 1, 0);
        Checks.fine("56 guess by 9999", x, x.book(0, 5), 0);
        // The second draw by 0: 10687 * 2972 leaves 42340, 5292, which leaves 0 by 2 and by 3, 1 by 1 is 0.
        x = lived("call q;guess bb;guess ba;", 0, 3, 0, 2, 0, 2, 0);
        Checks.fine("56 by one, too, there is a draw", x, x.book(1, 5), 3);
        Checks.fine("56 the second draw", x, x.book(0, 5), 0);
        // By seed 2: 16629, then 16629 * 2971 + 10687 = 49415446 leaves 1302, whose 8th part is 162, by 3 that is 0.
        x = lived("call q;guess bb;guess ba;", 2, 3, 0, 2, 0, 2, 0);
        Checks.fine("56 the second draw by 2", x, x.book(0, 5), 0);
        // Missed ones draw nothing: by seed 2 the first draw by 3 is 2.
        x = lived("guess bb;guess bc;guess ba;guess ba;", 2, 4, 3, 1, 0, 1, 0);
        Checks.fine("56 no draw by what is missed", x, x.book(0, 5), 2);
        // Finales that are in books are left out: two are left of which the first by seed 2 (2078 by 2), the second by seed 1 (1707 by 2).
        String text = THREE + "book bd from s misses 1;";
        for (int seed = 1; seed <= 2; seed++) {
            LastPages y = Checks.with(text);
            Checks.weeks(y, "bind bd fb;guess ba;");
            Checks.fine("56 by two", y, y.live(seed), 2);
            Checks.fine("56 guess by two and seed " + seed, y, y.book(0, 5), seed == 1 ? 2 : 0);
        }
        LastPages z = Checks.with(text + "book be from s misses 1;book bf from s misses 1;");
        Checks.weeks(z, "guess ba;guess bd;guess be;guess bf;");
        z.live(7);
        Checks.fine("57 three were bound", z, z.lived(3), 3);
        Checks.fine("57 one was missed", z, z.lived(0), 1);
        Checks.fine("13 the last has none", z, z.many(10), 1 + 8 + 16);
    }

    private static void limit() {
        lived("loop 99;loose ba;loose ba;loose ba;end;", 0, 298, 297, 0, 0, 0, 0);
        lived("loop 99;loose ba;loose ba;loose ba;end;loose bb;loose bb;", 0, 300, 299, 0, 0, 0, 0);
        lived("loop 99;loose ba;loose ba;loose ba;end;loose bb;loose bb;loose bb;", 0, 300, 299, 0, 0, 0, 1);
        lived("loop 99;loose ba;loose ba;loose ba;end;loose bb;stop;loose bb;", 0, 300, 298, 0, 0, 0, 0);
        lived("loop 99;loose ba;loose ba;loose ba;end;loose bb;loose bb;stop;", 0, 300, 299, 0, 0, 0, 1);
        lived("loop 99;loose ba;loose ba;loose ba;loose ba;end;", 0, 300, 299, 0, 0, 0, 1);
        // The last step is a when whose end, or a loop whose rounds are all that is left.
        lived("loop 99;loose ba;loose ba;loose ba;end;loose bb;when left = 3;end;", 0, 300, 298, 0, 0, 0, 0);
        lived("loop 99;loose ba;loose ba;loose ba;end;loose bb;when left = 0;stop;end;", 0, 300, 298, 0, 0, 0, 0);
        lived("loop 99;loose ba;loose ba;loose ba;end;loose bb;when left = 3;stop;end;", 0, 300, 298, 0, 0, 0, 1);
        lived("loop 99;loose ba;loose ba;loose ba;end;loose bb;loop 99;end;", 0, 300, 298, 0, 0, 0, 0);
        lived("loop 99;loop 99;loop 99;end;end;end;", 0, 300, 0, 0, 0, 0, 1);
        lived("loop 99;loop 99;loop 99;loose ba;end;end;end;", 0, 300, 295, 0, 0, 0, 1);
    }

    private static void asking() {
        LastPages x = Checks.with(THREE);
        Checks.refused("57 none was lived", x, x.lived(0), 8);
        Checks.refused("57 5 ahead of 8", x, x.lived(5), 5);
        Checks.refused("57 5 ahead of 8", x, x.lived(-1), 5);
        Checks.refused("56 no weeks", x, x.live(0), 8);
        for (int off : new int[] {-1, 10000, Integer.MAX_VALUE, Integer.MIN_VALUE}) {
            Checks.refused("56 5 ahead of 8", x, x.live(off), 5);
        }
        Checks.weeks(x, "guess ba;loose bb;");
        for (int off : new int[] {-1, 10000, Integer.MAX_VALUE, Integer.MIN_VALUE}) {
            Checks.refused("56 no seed", x, x.live(off), 5);
        }
        Checks.fine("56 nothing was done", x, x.many(10), 0);
        x.live(3);
        x.mark();
        Checks.weeks(x, "stop;");
        x.mean(0, 5);
        x.live(-1);
        Checks.shelf(x, THREE);
        x.live(0);
        x.back();
        Checks.fine("57 whatever came since", x, x.lived(3), 1);
        Checks.fine("57 whatever came since", x, x.lived(0), 1);
        Checks.weeks(x, "stop;");
        x.live(0);
        Checks.fine("57 the latest", x, x.lived(3), 0);
    }

    private static void means() {
        LastPages x = Checks.with(THREE);
        Checks.refused("58 no weeks", x, x.mean(0, 1), 8);
        Checks.refused("58 5 ahead of 8", x, x.mean(0, 0), 5);
        // ba is done by all seeds, bb if ba's finale is neither fa nor fb: by seeds 0 to 4 that is by 2 and 3.
        Checks.weeks(x, "guess ba;when odd ba = 2;call q;bind bb fd;end;");
        Checks.fine("58 five", x, x.mean(0, 5));
        Checks.fraction("58 seven by five", x, 7, 5);
        Checks.fine("58 all stays as it is", x, x.many(10), 0);
        Checks.fine("58 all stays as it is", x, x.many(11), 0);
        Checks.refused("58 nothing was lived", x, x.lived(0), 8);
        Checks.fine("58 two", x, x.mean(1, 2));
        Checks.fraction("58 three by two", x, 3, 2);
        Checks.fine("58 two", x, x.mean(2, 2));
        Checks.fraction("58 two by one", x, 2, 1);
        Checks.fine("58 the last", x, x.mean(9999, 1));
        Checks.fraction("58 by 9999", x, 1, 1);
        Checks.fine("58 twenty at the end", x, x.mean(9980, 20));
        int[][] off = {{-1, 1}, {10000, 1}, {0, 0}, {0, 21}, {0, -1}, {9981, 20}, {9999, 2},
            {Integer.MAX_VALUE, 20}, {Integer.MIN_VALUE, 1}, {0, Integer.MAX_VALUE}, {Integer.MAX_VALUE, Integer.MAX_VALUE}};
        x.mean(1, 2);
        for (int[] o : off) {
            Checks.refused("58 " + o[0] + " " + o[1], x, x.mean(o[0], o[1]), 5);
        }
        Checks.fraction("58 untouched", x, 3, 2);
        x.bind(0, 2);
        x.call(0, true);
        Checks.weeks(x, "call r;loose ba;");
        Checks.fine("58 from what there is", x, x.mean(0, 3));
        Checks.fraction("58 nothing is left", x, 0, 1);
        Checks.fine("58 bound still", x, x.book(0, 5), 2);
        Checks.fine("58 a liar still", x, x.many(11), 1);
    }
}
