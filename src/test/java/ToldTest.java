/** Promises 13 to 22: what is told of a shelf. */
public final class ToldTest {
    public static void main(String[] args) {
        many();
        rulesAndOdd();
        books();
        finalesAndHints();
        lots();
        copying();
        Checks.end();
    }

    private static void many() {
        LastPages x = Checks.with(Shelves.MOOR);
        int[] due = {4, 4, 4, 4, 2, 3, 3, 3, 7, 6, 0, 0};
        for (int what = 0; what < due.length; what++) {
            Checks.fine("13 many " + what, x, x.many(what), due[what]);
        }
        Checks.refused("13 -1", x, x.many(-1), 5);
        Checks.refused("13 12", x, x.many(12), 5);
        Checks.refused("13 far off", x, x.many(Integer.MAX_VALUE), 5);
        x.call(1, true);
        Checks.fine("13 liars", x, x.many(11), 2);
        x.call(0, true);
        Checks.fine("13 liars", x, x.many(11), 3);
        x.bind(3, 3);
        x.bind(0, 0);
        Checks.fine("13 books with a finale", x, x.many(10), 9);
        x.close(0, true);
        Checks.fine("13 finals", x, x.many(9), 7);
        LastPages y = Checks.with("state s;state r;turn t;rule s t to s;rule s t to r;rule r t to s;");
        Checks.fine("13 told again is one", y, y.many(8), 2);
        Checks.fine("14 the latest", y, y.rule(0, 0), 1);
        LastPages z = Checks.with("turn a;turn b;state s final;state t;state u final;reader r;reader q;"
            + "book c from u misses 1;finale f a;finale g b;offer o costs 1 tells c;watch w costs 0 guards;watch v costs 2 guards c;");
        int[] dueZ = {3, 2, 1, 2, 2, 0, 1, 2, 0, 5, 0, 0};
        for (int what = 0; what < dueZ.length; what++) {
            Checks.fine("13 many " + what + " of another", z, z.many(what), dueZ[what]);
        }
    }

    private static void rulesAndOdd() {
        LastPages x = Checks.with(Shelves.MOOR);
        int[][] due = {{2, 1, 3, 0}, {-1, -1, -1, -1}, {-1, -1, 3, -1}, {-1, 1, -1, 0}};
        for (int s = 0; s < 4; s++) {
            for (int t = 0; t < 4; t++) {
                if (due[s][t] < 0) {
                    Checks.refused("14 no rule " + s + " " + t, x, x.rule(s, t), 8);
                } else {
                    Checks.fine("14 rule " + s + " " + t, x, x.rule(s, t), due[s][t]);
                }
            }
            Checks.fine("15 odd " + s, x, x.odd(s), new int[] {2, 5, 1, 0}[s]);
        }
        int[] off = {-1, 4, 8, Integer.MAX_VALUE, Integer.MIN_VALUE};
        for (int i : off) {
            Checks.refused("14 no state", x, x.rule(i, 0), 2);
            Checks.refused("14 no turn", x, x.rule(0, i), 2);
            Checks.refused("15 no turn", x, x.odd(i), 2);
        }
    }

    private static void books() {
        LastPages x = Checks.with(Shelves.MOOR + "book torn from calm misses 6 fog kiss stab fog;");
        int[][] due = {{0, 1, 2, 0, -1}, {0, 2, 1, 3, -1}, {0, 1, 3, 1, -1}, {3, 0, 2, 3, -1}, {0, 4, 6, -1, 2}};
        for (int b = 0; b < due.length; b++) {
            for (int what = 0; what < 5; what++) {
                if (due[b][what] < 0) {
                    Checks.refused("16 book " + b + " " + what, x, x.book(b, what), 8);
                } else {
                    Checks.fine("16 book " + b + " " + what, x, x.book(b, what), due[b][what]);
                }
            }
            Checks.refused("16 none is bound", x, x.book(b, 5), 8);
            Checks.refused("16 what 6", x, x.book(b, 6), 5);
            Checks.refused("16 what -1", x, x.book(b, -1), 5);
        }
        Checks.refused("16 no book ahead of no what", x, x.book(5, 9), 2);
        Checks.refused("16 no book", x, x.book(-1, 0), 2);
        x.bind(3, 3);
        Checks.fine("16 bound", x, x.book(3, 5), 3);
        int[] pages = {3, 0, 1, 3};
        for (int p = 0; p < pages.length; p++) {
            Checks.fine("17 page " + p, x, x.page(4, p), pages[p]);
        }
        Checks.refused("17 no such page", x, x.page(4, 4), 8);
        Checks.refused("17 no such page", x, x.page(4, -1), 8);
        Checks.refused("17 no such page", x, x.page(3, 0), 8);
        Checks.refused("17 far off", x, x.page(0, Integer.MAX_VALUE), 8);
        Checks.refused("17 no book", x, x.page(5, 0), 2);
        Checks.refused("17 no book", x, x.page(-1, 0), 2);
        LastPages y = Checks.with("state s;turn a;turn b;rule s a to s;book c from s misses 1 a a a a a a a a a b;"
            + "book d from s misses 1 b;");
        Checks.fine("16 it breaks at the tenth", y, y.book(0, 4), 9);
        Checks.refused("16 no place", y, y.book(0, 3), 8);
        Checks.fine("16 ten pages", y, y.book(0, 1), 10);
        Checks.fine("17 the tenth", y, y.page(0, 9), 1);
        Checks.fine("16 it breaks at the first", y, y.book(1, 4), 0);
    }

    private static void finalesAndHints() {
        LastPages x = Checks.with(Shelves.MOOR);
        int[][] due = {{3, 0}, {1}, {2, 1}, {3, 1}};
        for (int f = 0; f < 4; f++) {
            for (int p = 1; p <= due[f].length; p++) {
                Checks.fine("18 finale " + f + " " + p, x, x.finale(f, p), due[f][p - 1]);
            }
            Checks.refused("18 place 0", x, x.finale(f, 0), 8);
            Checks.refused("18 behind", x, x.finale(f, due[f].length + 1), 8);
            Checks.refused("18 far below", x, x.finale(f, Integer.MIN_VALUE), 8);
            Checks.refused("18 far off", x, x.finale(f, Integer.MAX_VALUE), 8);
        }
        Checks.refused("18 no finale", x, x.finale(4, 1), 2);
        Checks.refused("18 no finale", x, x.finale(-1, 1), 2);
        int[][] hints = {{0, 1, 2, 0}, {0, 2, 0, 1}, {3, 1, 3, 0}};
        for (int h = 0; h < 3; h++) {
            for (int what = 0; what < 4; what++) {
                Checks.fine("19 hint " + h + " " + what, x, x.hint(h, what), hints[h][what]);
            }
            Checks.refused("19 what 4", x, x.hint(h, 4), 5);
            Checks.refused("19 what -1", x, x.hint(h, -1), 5);
        }
        Checks.refused("19 hint 3", x, x.hint(3, 0), 5);
        Checks.refused("19 hint -1", x, x.hint(-1, 0), 5);
    }

    private static void lots() {
        LastPages x = Checks.with(Shelves.MOOR);
        int[][] offers = {{5, 1}, {7, 10}, {3, 4}};
        int[][] watches = {{4, 3}, {6, 14}, {3, 13}};
        for (int i = 0; i < 3; i++) {
            for (int what = 0; what < 2; what++) {
                Checks.fine("20 offer " + i + " " + what, x, x.offer(i, what), offers[i][what]);
                Checks.fine("21 watch " + i + " " + what, x, x.watch(i, what), watches[i][what]);
            }
        }
        for (int off : new int[] {-1, 2, 9, Integer.MIN_VALUE}) {
            Checks.refused("20 what", x, x.offer(0, off), 5);
            Checks.refused("21 what", x, x.watch(0, off), 5);
        }
        for (int off : new int[] {-1, 3, 8, Integer.MAX_VALUE}) {
            Checks.refused("20 no offer, ahead of what", x, x.offer(off, 9), 2);
            Checks.refused("21 no watch, ahead of what", x, x.watch(off, 9), 2);
        }
    }

    private static void copying() {
        LastPages x = Checks.with(Shelves.MOOR);
        x.tray(0, 0, 3);
        x.write(0, 0, 9);
        x.write(0, 1, 9);
        x.write(0, 2, 9);
        Checks.fine("22 two", x, x.copyFinale(0, 0), 2);
        Checks.fine("22 first", x, x.read(0, 0), 3);
        Checks.fine("22 second", x, x.read(0, 1), 0);
        Checks.fine("22 the rest stays", x, x.read(0, 2), 9);
        Checks.fine("22 one", x, x.copyFinale(1, 0), 1);
        Checks.fine("22 first", x, x.read(0, 0), 1);
        Checks.fine("22 the rest stays", x, x.read(0, 1), 0);
        x.tray(1, 2, 1);
        Checks.fine("22 just enough", x, x.copyFinale(1, 1), 1);
        Checks.refused("22 too few", x, x.copyFinale(0, 1), 4);
        Checks.fine("22 and nothing came", x, x.read(1, 0), 1);
        Checks.refused("22 missing", x, x.copyFinale(0, 2), 3);
        Checks.refused("22 no finale, ahead of missing", x, x.copyFinale(4, 2), 2);
        Checks.refused("22 no finale", x, x.copyFinale(-1, 0), 2);
        Checks.refused("22 no tray, ahead of no finale", x, x.copyFinale(4, 4), 1);
        Checks.refused("22 no tray", x, x.copyFinale(0, -1), 1);
    }
}
