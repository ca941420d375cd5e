/** Promises 29 to 36: the endings of books. */
public final class EndingsTest {
    public static void main(String[] args) {
        counting();
        best();
        asking();
        chances();
        trying();
        wrong();
        Checks.end();
    }

    private static void counting() {
        LastPages x = Checks.with(Shelves.MOOR);
        long[] due = {0, 1, 0, 2};
        for (int b = 0; b < 4; b++) {
            Checks.fine("29 endings " + b, x, x.endings(b), due[b]);
        }
        Checks.fine("30 hopeless", x, x.hopeless(), 5);
        x.call(0, true);
        // moor: calm, then any and kiss: fog kiss. rose: fog kiss, fog stab.
        Checks.fine("29 without the liar's hints", x, x.endings(0), 1);
        Checks.fine("30 hopeless", x, x.hopeless(), 4);
        x.call(1, true);
        // fog kiss, fog stab, flee stab
        Checks.fine("29 without any hint", x, x.endings(0), 3);
        LastPages y = Checks.with(Shelves.free(8, "book k from s misses 6;book l from s misses 1 a;book m from s misses 6 a;"));
        Checks.fine("29 all rows of six", y, y.endings(0), 262144);
        Checks.fine("29 all rows of one", y, y.endings(1), 8);
        Checks.fine("30 none is hopeless", y, y.hopeless(), 0);
        y.lead(0, 0, -1);
        Checks.fine("29 seven turns are left", y, y.endings(0), 117649);
        Checks.fine("29 a book that breaks has none", y, y.endings(1), 0);
        Checks.fine("30 hopeless", y, y.hopeless(), 6);
        y.close(0, false);
        Checks.fine("29 nothing is final", y, y.endings(0), 0);
        Checks.fine("30 hopeless", y, y.hopeless(), 7);
        LastPages z = Checks.with(
            Shelves.free(2, "book k from s misses 2;reader r;reader q;hint k at 1 is a by r;hint k at 1 is b by q;"));
        Checks.fine("29 hints that can't both be", z, z.endings(0), 0);
        z.call(1, true);
        Checks.fine("29 one is believed", z, z.endings(0), 2);
    }

    private static void best() {
        LastPages x = Checks.with(Shelves.MOOR);
        Checks.fine("31 best", x, x.best(3), 2);
        Checks.fine("32 first", x, x.bestAt(3, 1), 3);
        Checks.fine("32 second", x, x.bestAt(3, 2), 0);
        Checks.refused("31 none", x, x.best(0), 8);
        Checks.refused("32 none", x, x.bestAt(0, 1), 8);
        Checks.refused("32 5 ahead of 8", x, x.bestAt(0, 3), 5);
        x.strange(0, 5);
        x.strange(1, 4);
        Checks.fine("31 by what is odd now", x, x.best(3), 4);
        Checks.fine("32 stab now", x, x.bestAt(3, 2), 1);
        x.strange(0, 4);
        Checks.fine("32 of several the first by turns", x, x.bestAt(3, 2), 0);

        // From s: turn a (odd 3) to p, from where d (0) ends; turn c (1) to q, from where b (2) ends; both cost 3.
        LastPages y = Checks.with("state s;state p;state q;state e final;turn a odd 3;turn b odd 2;turn c odd 1;turn d odd 0;"
            + "rule s a to p;rule p d to e;rule s c to q;rule q b to e;book k from s misses 2;");
        Checks.fine("31 three", y, y.best(0), 3);
        Checks.fine("32 the first by its first turn", y, y.bestAt(0, 1), 0);
        Checks.fine("32 its second", y, y.bestAt(0, 2), 3);
        y.strange(0, 4);
        Checks.fine("31 three by the other", y, y.best(0), 3);
        Checks.fine("32 the other", y, y.bestAt(0, 1), 2);
        Checks.fine("32 the other's second", y, y.bestAt(0, 2), 1);

        LastPages z = Checks.with(Shelves.free(8, "book k from s misses 6;reader r;hint k at 4 is h by r;"));
        Checks.fine("31 seven by the hint", z, z.best(0), 7);
        for (int p = 1; p <= 6; p++) {
            Checks.fine("32 place " + p, z, z.bestAt(0, p), p == 4 ? 7 : 0);
        }
        for (int t = 0; t < 8; t++) {
            z.strange(t, 9);
        }
        Checks.fine("31 the greatest there can be", z, z.best(0), 54);
    }

    private static void asking() {
        LastPages x = Checks.with(Shelves.MOOR);
        Checks.fine("33 next", x, x.next(3), 2);
        Checks.refused("33 one ending alone", x, x.next(1), 8);
        Checks.refused("33 no ending", x, x.next(0), 8);
        LastPages y = Checks.with(Shelves.free(3, "book k from s misses 3;reader r;"));
        Checks.fine("33 of several the first", y, y.next(0), 1);
        // From s a or b lead to s; then from s any of a, b, c ends: the last place tells most.
        LastPages z = Checks.with("state s;state m;state e final;turn a;turn b;turn c;rule s a to m;rule s b to m;"
            + "rule m a to e;rule m b to e;rule m c to e;rule e a to e;book k from s misses 3;book l from s misses 1;book n from m misses 1;");
        Checks.fine("33 the second", z, z.next(0), 2);
        Checks.refused("33 none", z, z.next(1), 8);
        Checks.fine("33 the only place", z, z.next(2), 1);
    }

    private static void chances() {
        LastPages z = Checks.with("state s;state m;state e final;turn a;turn b;turn c;rule s a to m;rule s b to m;"
            + "rule m a to e;rule m b to e;rule m c to e;rule s c to e;rule e a to e;book k from s misses 2;book l from e misses 1 a b;");
        // a or b, then any of three; or c a: seven.
        Checks.fine("29 seven", z, z.endings(0), 7);
        Checks.fine("34 a first", z, z.chance(0, 1, 0));
        Checks.fraction("34 a first", z, 3, 7);
        Checks.fine("34 c first", z, z.chance(0, 1, 2));
        Checks.fraction("34 c first", z, 1, 7);
        Checks.fine("34 a then", z, z.chance(0, 2, 0));
        Checks.fraction("34 a then", z, 3, 7);
        Checks.fine("34 b then", z, z.chance(0, 2, 1));
        Checks.fraction("34 b then", z, 2, 7);
        Checks.fine("35 first", z, z.may(0, 1), 7);
        z.lead(1, 2, -1);
        Checks.fine("35 then", z, z.may(0, 2), 3);
        z.lead(0, 0, -1);
        Checks.fine("35 b or c first", z, z.may(0, 1), 6);
        Checks.fine("35 a book without endings", z, z.may(1, 1), 0);
        Checks.refused("34 no endings", z, z.chance(1, 1, 0), 8);

        LastPages y = Checks.with(Shelves.free(8, "book k from s misses 6;"));
        Checks.fine("34 an eighth", y, y.chance(0, 3, 5));
        Checks.fraction("34 an eighth", y, 1, 8);
        Checks.fine("35 all", y, y.may(0, 6), 255);
        y.lead(0, 5, -1);
        Checks.fine("34 none", y, y.chance(0, 3, 5));
        Checks.fraction("34 none", y, 0, 1);
        Checks.fine("35 all but one", y, y.may(0, 6), 255 - 32);
    }

    private static int tried(LastPages x, int book, int... turns) {
        x.tray(0, 3, turns.length);
        for (int i = 0; i < turns.length; i++) {
            x.write(0, i, turns[i]);
        }
        return x.isEnding(book, 0, turns.length);
    }

    private static void trying() {
        LastPages x = Checks.with(Shelves.MOOR);
        Checks.fine("36 fog kiss", x, tried(x, 3, 3, 0), 1);
        Checks.fine("36 fog stab", x, tried(x, 3, 3, 1), 1);
        Checks.fine("36 fog fog ends nowhere", x, tried(x, 3, 3, 3), 0);
        Checks.fine("36 no rule", x, tried(x, 3, 0, 0), 0);
        Checks.fine("36 against a hint", x, tried(x, 0, 3, 1), 0);
        x.call(0, true);
        x.call(1, true);
        Checks.fine("36 no hint any more", x, tried(x, 0, 3, 1), 1);
        Checks.refused("36 too many for it", x, tried(x, 0, 3, 3, 1), 5);
        Checks.refused("36 too few for it", x, tried(x, 0, 1), 5);
        Checks.refused("36 no turn", x, tried(x, 0, 3, 4), 5);
        Checks.refused("36 no turn", x, tried(x, 0, -1, 1), 5);
        x.tray(1, 3, 3);
        x.write(1, 0, 3);
        x.write(1, 1, (1L << 32) + 1);
        x.write(1, 2, 99);
        Checks.refused("36 a number that is cut to a turn is none", x, x.isEnding(0, 1, 2), 5);
        x.write(1, 1, 1);
        Checks.fine("36 the first n alone", x, x.isEnding(0, 1, 2), 1);
        Checks.refused("36 too few there", x, x.isEnding(0, 1, 4), 4);
        Checks.refused("36 4 ahead of 5", x, x.isEnding(1, 1, Integer.MAX_VALUE), 4);
        Checks.refused("36 below 0", x, x.isEnding(0, 1, -1), 5);
        Checks.refused("36 none", x, x.isEnding(0, 1, 0), 5);
        Checks.refused("36 missing, ahead of 4", x, x.isEnding(0, 2, 99), 3);
        Checks.refused("36 no book, ahead of missing", x, x.isEnding(4, 2, 2), 2);
        Checks.refused("36 no book", x, x.isEnding(-1, 1, 2), 2);
        Checks.refused("36 no tray, ahead of no book", x, x.isEnding(4, 4, 2), 1);
        Checks.refused("36 no tray", x, x.isEnding(0, -1, 2), 1);
    }

    private static void wrong() {
        LastPages x = Checks.with(Shelves.MOOR);
        for (int off : new int[] {-1, 4, 33, Integer.MAX_VALUE, Integer.MIN_VALUE}) {
            Checks.refused("29 no book", x, x.endings(off), 2);
            Checks.refused("31 no book", x, x.best(off), 2);
            Checks.refused("32 no book, ahead of the place", x, x.bestAt(off, 0), 2);
            Checks.refused("33 no book", x, x.next(off), 2);
            Checks.refused("34 no book, ahead of the place", x, x.chance(off, 0, 0), 2);
            Checks.refused("34 no turn, ahead of the place", x, x.chance(3, 0, off), 2);
            Checks.refused("35 no book, ahead of the place", x, x.may(off, 0), 2);
        }
        for (int off : new int[] {-1, 0, 3, Integer.MAX_VALUE, Integer.MIN_VALUE}) {
            Checks.refused("32 no place", x, x.bestAt(3, off), 5);
            Checks.refused("34 no place", x, x.chance(3, off, 0), 5);
            Checks.refused("34 no place, ahead of no endings", x, x.chance(0, off, 0), 5);
            Checks.refused("35 no place", x, x.may(3, off), 5);
            Checks.refused("35 no place, of a book without endings", x, x.may(0, off), 5);
        }
        Checks.fraction("34 untouched", x, 0, 1);
    }
}
