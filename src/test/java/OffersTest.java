/** Promises 49 to 55: offers and watches. */
public final class OffersTest {
    private static final String BOOKS = "state s;book a from s misses 1;book b from s misses 1;book c from s misses 1;";

    public static void main(String[] args) {
        knowing();
        buying();
        cheapest();
        guarding();
        barest();
        Checks.end();
    }

    private static void knowing() {
        LastPages x = Checks.with(Shelves.MOOR);
        int[] due = {0, 13, 10, 15, 12, 13, 14, 15};
        for (int set = 0; set < due.length; set++) {
            Checks.fine("49 known " + set, x, x.known(set), due[set]);
        }
        for (int off : new int[] {8, 9, 16, 64, -1, Integer.MIN_VALUE, Integer.MAX_VALUE}) {
            Checks.refused("49 no such offer", x, x.known(off), 5);
        }
        // Told against their order, so that what follows must be gone through again and again; and in a ring.
        LastPages y = Checks.with("state s;book a from s misses 1;book b from s misses 1;book c from s misses 1;"
            + "book d from s misses 1;book e from s misses 1;book f from s misses 1;"
            + "follows b a;follows c b;follows d c;follows e d;follows f e;offer o costs 1 tells f;offer p costs 1 tells b;offer q costs 1 tells;");
        Checks.fine("49 through all", y, y.known(1), 63);
        Checks.fine("49 through two", y, y.known(2), 3);
        Checks.fine("49 nothing told", y, y.known(4), 0);
        LastPages z = Checks.with(BOOKS + "follows a b;follows b c;follows c a;offer o costs 1 tells b;");
        Checks.fine("49 a ring", z, z.known(1), 7);
        LastPages w = Checks.with("");
        Checks.fine("49 nothing", w, w.known(0), 0);
        Checks.refused("49 no offers", w, w.known(1), 5);
        LastPages v = Checks.with(BOOKS + "offer oa costs 1 tells a;offer ob costs 1 tells;"
            + "offer oc costs 1 tells;offer od costs 1 tells;offer oe costs 1 tells;offer of costs 1 tells b;");
        Checks.fine("49 all six", v, v.known(63), 3);
        Checks.refused("49 a seventh", v, v.known(64), 5);
    }

    private static void buying() {
        LastPages x = Checks.with(Shelves.MOOR);
        int[][] due = {{0, 0, 0}, {2, 0, 0}, {3, 2, 4}, {4, 2, 4}, {5, 3, 1}, {7, 3, 1}, {10, 3, 1}, {11, 3, 1}, {12, 4, 3}, {999, 4, 3}};
        for (int[] d : due) {
            Checks.fine("50 buy " + d[0], x, x.buy(d[0]), d[1]);
            Checks.fine("51 buy " + d[0], x, x.buySet(d[0]), d[2]);
        }
        for (int off : new int[] {-1, 1000, Integer.MAX_VALUE, Integer.MIN_VALUE}) {
            Checks.refused("50 much", x, x.buy(off), 5);
            Checks.refused("51 much", x, x.buySet(off), 5);
        }
        LastPages y = Checks.with(BOOKS + "offer oa costs 4 tells a b;offer ob costs 2 tells a;offer oc costs 1 tells b;"
            + "offer od costs 3 tells a b;offer oe costs 0 tells;");
        Checks.fine("51 the cheapest, then the fewest", y, y.buySet(9), 8);
        LastPages z = Checks.with(BOOKS + "offer oa costs 4 tells c;offer ob costs 4 tells b;offer oc costs 4 tells a;");
        Checks.fine("51 the least as a number", z, z.buySet(5), 1);
        Checks.fine("51 the least as a number of two", z, z.buySet(8), 3);
        Checks.fine("50 two", z, z.buy(11), 2);
        Checks.fine("50 three", z, z.buy(12), 3);
        LastPages w = Checks.with(BOOKS + "offer oa costs 0 tells a;offer ob costs 0 tells;");
        Checks.fine("50 for nothing", w, w.buy(0), 1);
        Checks.fine("51 for nothing", w, w.buySet(0), 1);
        LastPages v = Checks.with(BOOKS + "offer oa costs 99 tells a;offer ob costs 99 tells b;");
        Checks.fine("50 as dear as can be", v, v.buy(197), 1);
        Checks.fine("50 as dear as can be", v, v.buy(198), 2);
    }

    private static void cheapest() {
        LastPages x = Checks.with(Shelves.MOOR);
        Checks.fine("52 cheapest", x, x.cheapest(), 12);
        LastPages y = Checks.with(BOOKS + "offer oa costs 1 tells a b;");
        Checks.refused("52 c is not known", y, y.cheapest(), 8);
        LastPages z = Checks.with(BOOKS + "offer oa costs 9 tells a b c;offer ob costs 3 tells a;offer oc costs 4 tells c;follows a b;");
        Checks.fine("52 by two", z, z.cheapest(), 7);
        LastPages w = Checks.with("");
        Checks.fine("52 nothing to know", w, w.cheapest(), 0);
        LastPages v = Checks.with(BOOKS);
        Checks.refused("52 no offers", v, v.cheapest(), 8);
    }

    private static void guarding() {
        LastPages x = Checks.with(Shelves.MOOR);
        Checks.fine("53 one each", x, x.guard(1), 7);
        Checks.fine("54 one each", x, x.guardSet(1), 5);
        Checks.fine("53 two each", x, x.guard(2), 13);
        Checks.fine("54 two each", x, x.guardSet(2), 7);
        Checks.refused("53 three each", x, x.guard(3), 8);
        Checks.refused("54 three each", x, x.guardSet(3), 8);
        for (int off : new int[] {0, 4, -1, Integer.MAX_VALUE, Integer.MIN_VALUE}) {
            Checks.refused("53 many", x, x.guard(off), 5);
            Checks.refused("54 many", x, x.guardSet(off), 5);
        }
        LastPages y = Checks.with(BOOKS + "watch wa costs 1 guards a;watch wb costs 1 guards b;watch wc costs 1 guards c;"
            + "watch wd costs 3 guards a b c;watch we costs 3 guards a b c;watch wf costs 0 guards;");
        Checks.fine("53 three", y, y.guard(1), 3);
        Checks.fine("54 the fewest, then the least", y, y.guardSet(1), 8);
        Checks.fine("54 two each", y, y.guardSet(2), 24);
        Checks.fine("53 three each", y, y.guard(3), 9);
        Checks.fine("54 three each", y, y.guardSet(3), 31);
        LastPages z = Checks.with("");
        Checks.fine("53 nothing to guard", z, z.guard(3), 0);
        Checks.fine("54 nothing to guard", z, z.guardSet(3), 0);
        LastPages w = Checks.with(BOOKS + "watch wa costs 5 guards a b c;watch wb costs 2 guards a b;watch wc costs 2 guards c;");
        Checks.fine("53 the least cost ahead of the fewest", w, w.guard(1), 4);
        Checks.fine("54 the least cost ahead of the fewest", w, w.guardSet(1), 6);
    }

    private static void barest() {
        LastPages x = Checks.with(Shelves.MOOR);
        Checks.fine("55 of several the first", x, x.barest(), 0);
        LastPages y = Checks.with(BOOKS + "watch wa costs 1 guards a b;watch wb costs 1 guards c b;watch wc costs 1 guards a;");
        Checks.fine("55 c has one", y, y.barest(), 2);
        LastPages z = Checks.with("state s;");
        Checks.refused("55 no books", z, z.barest(), 8);
        LastPages w = Checks.with(BOOKS);
        Checks.fine("55 no watches", w, w.barest(), 0);
        LastPages v = Checks.with(BOOKS + "watch wa costs 1 guards a;watch wb costs 1 guards a c;");
        Checks.fine("55 b has none", v, v.barest(), 1);
    }
}
