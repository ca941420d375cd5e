/** Shelves and weeks with as many of each thing as there may be: the last one answers as the first does, marks keep it. */
public final class FullTest {
    /** Turn i leads to state a, p to h, which alone is final; the last book, from h, has ten pages, and misses six. */
    private static final String STORIES = "state a;state b;state c;state d;state e;state f;state g;state h final;"
        + "turn i;turn j;turn k;turn l;turn m;turn n;turn o;turn p odd 9;"
        + "rule a i to a;rule a p to h;rule h i to a;rule h p to h;"
        + "book q from a misses 1;book r from a misses 1;book s from a misses 1;book t from a misses 1;"
        + "book u from a misses 1;book v from h misses 6 i p i p i p i p i p;"
        + "finale w p;finale x p;finale y p;finale z p;finale za p;finale zb p;finale zc p;finale zd i i i i i p;"
        + "reader ze;reader zf;reader zg;reader zh;reader zi;reader zj;"
        + "hint q at 1 is p by ze;".repeat(11) + "hint v at 6 is i by zj;";
    private static final String LOTS = "state a;"
        + "book q from a misses 1;book r from a misses 1;book s from a misses 1;book t from a misses 1;"
        + "book u from a misses 1;book v from a misses 1;"
        + "offer zk costs 1 tells q r s t u;offer zl costs 1 tells;offer zm costs 1 tells;offer zn costs 1 tells;"
        + "offer zo costs 1 tells;offer zp costs 99 tells v;"
        + "watch zq costs 1 guards q r s t u;watch zr costs 1 guards q r s t u;watch zs costs 1 guards;"
        + "watch zt costs 1 guards;watch zu costs 1 guards;watch zv costs 1 guards;watch zw costs 1 guards;"
        + "watch zx costs 99 guards v;follows v q;";
    /** Thirty steps and as many ends in 300 bytes: the very last end is one that goes back. */
    private static final String WEEKS = "loop3;loop1;end;end;".repeat(15);

    public static void main(String[] args) {
        stories();
        lots();
        weeks();
        means();
        ways();
        Checks.end();
    }

    private static void stories() {
        LastPages x = Checks.with(STORIES);
        story("told", x);
        x.mark();
        Checks.shelf(x, LOTS);
        x.back();
        story("taken back", x);
        x.call(5, true);
        Checks.fine("11 the last name", x, Checks.weeks(x, "call zj;bind v zd;"), 2);
        x.live(0);
        Checks.fine("56 the last reader believed again", x, x.many(11), 0);
        Checks.fine("56 no finale fits the last book now", x, x.lived(0), 1);
    }

    private static void story(String when, LastPages x) {
        Checks.within(when + ": ");
        int[] many = {8, 8, 6, 8, 6, 12, 0, 0, 4, 128};
        for (int what = 0; what < many.length; what++) {
            Checks.fine("13 many " + what, x, x.many(what), many[what]);
        }
        Checks.fine("15 odd", x, x.odd(7), 9);
        Checks.fine("16 from", x, x.book(5, 0), 7);
        Checks.fine("16 pages", x, x.book(5, 1), 10);
        Checks.fine("16 misses", x, x.book(5, 2), 6);
        Checks.fine("16 place", x, x.book(5, 3), 7);
        Checks.fine("17 the last page", x, x.page(5, 9), 7);
        Checks.fine("18 the last turn", x, x.finale(7, 6), 7);
        Checks.fine("19 the last hint", x, x.hint(11, 3), 5);
        Checks.fine("30 the last one alone", x, x.hopeless(), 32);
        Checks.fine("47 by one reader", x, x.liars(5), 1);
        Checks.fine("48 the last one", x, x.liarSet(5), 32);
        x.mark();
        Checks.fine("25 the last reader", x, x.call(5, true));
        endings(x);
        finales(x);
        x.back();
        Checks.within("");
    }

    private static void endings(LastPages x) {
        Checks.fine("29 any five, then p", x, x.endings(5), 32);
        Checks.fine("31 best", x, x.best(5), 14);
        for (int place = 1; place <= 6; place++) {
            Checks.fine("32 place " + place, x, x.bestAt(5, place), place == 6 ? 7 : 0);
            Checks.fine("35 place " + place, x, x.may(5, place), place == 6 ? 128 : 129);
            for (int turn = 0; turn < 8; turn++) {
                boolean isAlways = place == 6 && turn == 7;
                boolean isHalf = place < 6 && (turn == 0 || turn == 7);
                Checks.fine("34 place " + place + " turn " + turn, x, x.chance(5, place, turn));
                Checks.fraction("34 place " + place + " turn " + turn, x, isAlways || isHalf ? 1 : 0, isHalf ? 2 : 1);
            }
        }
        Checks.fine("33 next", x, x.next(5), 1);
        x.tray(3, 0, 60);
        Checks.fine("22 the last finale", x, x.copyFinale(7, 3), 6);
        Checks.fine("36 is one", x, x.isEnding(5, 3, 6), 1);
        x.write(3, 5, 0);
        Checks.fine("36 is none", x, x.isEnding(5, 3, 6), 0);
        x.strange(7, 0);
        Checks.fine("31 best, as it is odd now", x, x.best(5), 0);
        Checks.fine("32 first", x, x.bestAt(5, 1), 7);
        x.strange(7, 9);
    }

    private static void finales(LastPages x) {
        Checks.fine("38 of the last book", x, x.finalesOf(5), 128);
        Checks.fine("39 of the last finale", x, x.booksOf(7), 32);
        Checks.fine("39 of the first", x, x.booksOf(0), 31);
        Checks.fine("40 oddness", x, x.oddness(7), 14);
        Checks.fine("41 match", x, x.match(), 6);
        Checks.fine("42 seven finales for five", x, x.ways(), 2520);
        Checks.refused("43 clash", x, x.clash(), 8);
        Checks.fine("45 two serve", x, x.finish(), 2);
        Checks.fine("46 first and last", x, x.finishSet(), 129);
        Checks.fine("23 bind", x, x.bind(5, 7));
        Checks.fine("13 bound", x, x.many(10), 32);
    }

    private static void lots() {
        LastPages x = Checks.with(LOTS);
        lot("told", x);
        x.mark();
        Checks.shelf(x, STORIES);
        x.back();
        lot("taken back", x);
    }

    private static void lot(String when, LastPages x) {
        Checks.within(when + ": ");
        Checks.fine("20 the last offer", x, x.offer(5, 0), 99);
        Checks.fine("20 tells", x, x.offer(5, 1), 32);
        Checks.fine("21 the last watch", x, x.watch(7, 0), 99);
        Checks.fine("21 guards", x, x.watch(7, 1), 32);
        Checks.fine("49 what follows of the last book", x, x.known(32), 33);
        Checks.fine("50 buy", x, x.buy(999), 6);
        Checks.fine("51 first and last", x, x.buySet(999), 33);
        Checks.fine("50 buy for less", x, x.buy(99), 5);
        Checks.fine("52 cheapest", x, x.cheapest(), 100);
        Checks.fine("53 guard", x, x.guard(1), 100);
        Checks.fine("54 first and last", x, x.guardSet(1), 129);
        Checks.refused("53 the last book by two", x, x.guard(2), 8);
        Checks.fine("55 barest", x, x.barest(), 5);
        Checks.within("");
    }

    private static void weeks() {
        LastPages x = Checks.with(STORIES);
        Checks.fine("11 thirty", x, Checks.weeks(x, WEEKS), 30);
        Checks.fine("56 each outer loop once, each inner one three times", x, x.live(0), 60);
        x.mark();
        Checks.weeks(x, "stop;");
        x.back();
        Checks.fine("56 taken back", x, x.live(0), 60);
    }

    private static void means() {
        LastPages x = Checks.with(STORIES);
        x.call(5, true);
        x.bind(5, 7);
        Checks.weeks(x, "loose v;guess q;guess r;guess s;guess t;guess u;call zj;");
        Checks.fine("58 mean", x, x.mean(0, 20));
        Checks.fraction("58 all but the last", x, 5, 1);
        Checks.fine("58 the last is bound still", x, x.book(5, 5), 7);
        Checks.fine("58 no other is", x, x.many(10), 32);
        Checks.fine("58 the last reader is a liar still", x, x.many(11), 32);
        x.live(0);
        Checks.fine("56 five are bound", x, x.many(10), 31);
        Checks.fine("56 the last reader is believed", x, x.many(11), 0);
    }

    private static void ways() {
        LastPages x = Shelves.fits(8, 255);
        Checks.fine("42 eight finales for one book", x, x.ways(), 8);
        Checks.fine("41 match", x, x.match(), 1);
        Checks.fine("46 the first one finishes it", x, x.finishSet(), 1);
        LastPages y = Shelves.fits(8, 255, 255, 255, 255, 255, 255);
        Checks.fine("42 eight finales for six books", y, y.ways(), 20160);
        Checks.fine("41 match", y, y.match(), 6);
    }
}
