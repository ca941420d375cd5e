/** Promises 23 to 28: what is done to a shelf. */
public final class DoneTest {
    public static void main(String[] args) {
        binding();
        calling();
        changing();
        Checks.end();
    }

    private static void binding() {
        LastPages x = Checks.with(Shelves.MOOR);
        Checks.refused("23 it does not fit", x, x.bind(0, 0), 9);
        Checks.refused("24 it has none", x, x.loose(0), 8);
        x.call(0, true);
        Checks.fine("23 bind", x, x.bind(0, 0));
        Checks.fine("23 it is in", x, x.book(0, 5), 0);
        Checks.refused("23 again", x, x.bind(0, 0), 9);
        Checks.fine("25 a liar no more, so h would fit", x, x.call(0, false));
        x.call(1, true);
        Checks.fine("37 h fits", x, x.fits(0, 2), 1);
        Checks.refused("23 it has one, though h fits", x, x.bind(0, 2), 9);
        Checks.fine("25", x, x.call(1, false));
        Checks.fine("37 f fits another book, too", x, x.fits(3, 0), 1);
        Checks.refused("23 it is in another book", x, x.bind(3, 0), 9);
        Checks.fine("24 loose", x, x.loose(0), 0);
        Checks.refused("24 it is out", x, x.loose(0), 8);
        Checks.refused("16 none is bound", x, x.book(0, 5), 8);
        Checks.fine("23 free for the other", x, x.bind(3, 0));
        Checks.fine("13", x, x.many(10), 8);
        Checks.refused("23 of another length", x, x.bind(1, 0), 9);
        Checks.fine("23 g", x, x.bind(1, 1));
        for (int off : new int[] {-1, 4, Integer.MAX_VALUE, Integer.MIN_VALUE}) {
            Checks.refused("23 no book", x, x.bind(off, 0), 2);
            Checks.refused("23 no finale", x, x.bind(0, off), 2);
            Checks.refused("24 no book", x, x.loose(off), 2);
        }
        LastPages y = Checks.with("state s final;turn t;turn u;rule s t to s;book b from s misses 1 u;finale f t;");
        Checks.refused("23 a book that breaks takes none", y, y.bind(0, 0), 9);
    }

    private static void calling() {
        LastPages x = Checks.with(Shelves.MOOR);
        Checks.refused("25 he is believed", x, x.call(0, false), 9);
        Checks.fine("25 a liar", x, x.call(0, true));
        Checks.refused("25 it is so", x, x.call(0, true), 9);
        Checks.fine("13", x, x.many(11), 1);
        x.bind(0, 0);
        Checks.fine("25 believed", x, x.call(0, false));
        Checks.fine("37 it does not fit any more", x, x.fits(0, 0), 0);
        Checks.fine("25 what is bound stays", x, x.book(0, 5), 0);
        for (int off : new int[] {-1, 2, 33, Integer.MIN_VALUE}) {
            Checks.refused("25 no reader", x, x.call(off, true), 2);
            Checks.refused("25 no reader", x, x.call(off, false), 2);
        }
    }

    private static void changing() {
        LastPages x = Checks.with(Shelves.MOOR);
        Checks.fine("26 strange", x, x.strange(3, 9));
        Checks.fine("26 odd", x, x.odd(3), 9);
        Checks.fine("26 the others stay", x, x.odd(2), 1);
        Checks.fine("26 as it is", x, x.strange(3, 9));
        Checks.fine("26 0", x, x.strange(0, 0));
        Checks.fine("26 odd", x, x.odd(0), 0);
        Checks.refused("26 10", x, x.strange(0, 10), 5);
        Checks.refused("26 -1", x, x.strange(0, -1), 5);
        Checks.refused("26 no turn ahead of it", x, x.strange(4, 10), 2);
        Checks.refused("26 no turn", x, x.strange(-1, 1), 2);
        Checks.fine("26 unchanged", x, x.odd(0), 0);

        x.bind(3, 3);
        Checks.refused("27 it is final", x, x.close(1, true), 9);
        Checks.fine("27 not any more", x, x.close(1, false));
        Checks.refused("27 it is not", x, x.close(1, false), 9);
        Checks.fine("13 finals", x, x.many(9), 4);
        Checks.fine("37 it does not fit any more", x, x.fits(3, 3), 0);
        Checks.fine("27 what is bound stays", x, x.book(3, 5), 3);
        Checks.refused("27 no state", x, x.close(4, true), 2);
        Checks.refused("27 no state", x, x.close(-1, false), 2);
        Checks.fine("27 final again", x, x.close(1, true));
        Checks.fine("37 it fits", x, x.fits(3, 3), 1);

        Checks.fine("28 another way", x, x.lead(0, 1, 3));
        Checks.fine("14 it leads there", x, x.rule(0, 1), 3);
        Checks.fine("13 as many rules", x, x.many(8), 7);
        Checks.fine("28 what is bound stays", x, x.book(3, 5), 3);
        Checks.fine("28 nowhere", x, x.lead(0, 1, -1));
        Checks.refused("14 no rule", x, x.rule(0, 1), 8);
        Checks.fine("13 one less", x, x.many(8), 6);
        Checks.fine("28 nowhere again", x, x.lead(0, 1, -1));
        Checks.fine("28 a new one", x, x.lead(1, 0, 1));
        Checks.fine("14 to itself", x, x.rule(1, 0), 1);
        Checks.fine("13 one more", x, x.many(8), 7);
        Checks.refused("28 no state", x, x.lead(4, 0, 0), 2);
        Checks.refused("28 no state", x, x.lead(-1, 0, 0), 2);
        Checks.refused("28 no turn", x, x.lead(0, 4, 0), 2);
        Checks.refused("28 no turn", x, x.lead(0, -1, 0), 2);
        Checks.refused("28 no goal", x, x.lead(0, 0, 4), 2);
        Checks.refused("28 no goal", x, x.lead(0, 0, -2), 2);
        Checks.fine("14 unchanged", x, x.rule(0, 0), 2);
        x.lead(0, 3, -1);
        Checks.fine("16 a book breaks by it", x, x.book(0, 4), 0);
    }
}
