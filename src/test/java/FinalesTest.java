/** Promises 37 to 48: which finale fits which book, and who must lie. */
public final class FinalesTest {
    /** Books of lengths 1, 2 and 3 among which finales can be dealt by their lengths alone. */
    private static String dealt(String books, String finales) {
        StringBuilder text = new StringBuilder("state s final;turn t;rule s t to s;");
        for (int i = 0; i < books.length(); i++) {
            text.append("book b").append((char) ('a' + i)).append(" from s misses ").append(books.charAt(i)).append(';');
        }
        for (int i = 0; i < finales.length(); i++) {
            text.append("finale f").append((char) ('a' + i));
            for (int j = 0; j < finales.charAt(i) - '0'; j++) {
                text.append(" t");
            }
            text.append(';');
        }
        return text.toString();
    }

    public static void main(String[] args) {
        fitting();
        matching();
        clashing();
        finishing();
        lying();
        wrong();
        Checks.end();
    }

    private static void fitting() {
        LastPages x = Checks.with(Shelves.MOOR);
        int[] due = {0, 2, 0, 9};
        int[] dueBooks = {8, 2, 0, 8};
        int[] dueOdd = {2, 5, 6, 5};
        for (int i = 0; i < 4; i++) {
            Checks.fine("38 finales of " + i, x, x.finalesOf(i), due[i]);
            Checks.fine("39 books of " + i, x, x.booksOf(i), dueBooks[i]);
            Checks.fine("40 oddness of " + i, x, x.oddness(i), dueOdd[i]);
            for (int f = 0; f < 4; f++) {
                Checks.fine("37 fits " + i + " " + f, x, x.fits(i, f), due[i] >> f & 1);
            }
        }
        x.call(0, true);
        Checks.fine("38 without the liar's hints", x, x.finalesOf(0), 1);
        Checks.fine("39 without the liar's hints", x, x.booksOf(0), 9);
        x.call(1, true);
        Checks.fine("38 without any hint", x, x.finalesOf(0), 13);
        x.bind(0, 0);
        Checks.fine("38 what is bound is not minded", x, x.finalesOf(0), 13);
        Checks.fine("39 what is bound is not minded", x, x.booksOf(0), 9);
        x.strange(1, 9);
        Checks.fine("40 by what is odd now", x, x.oddness(2), 10);
        LastPages y = Checks.with(Shelves.free(8, "finale x h h h h h h;finale y a;"));
        y.strange(7, 9);
        Checks.fine("40 six turns", y, y.oddness(0), 54);
        Checks.fine("40 nothing odd", y, y.oddness(1), 0);
        LastPages z = Checks.with(dealt("1", "12"));
        Checks.fine("37 of its length", z, z.fits(0, 0), 1);
        Checks.fine("37 of another length", z, z.fits(0, 1), 0);
    }

    private static void dealtAs(String books, String finales, int match, long ways) {
        LastPages x = Checks.with(dealt(books, finales));
        Checks.fine("41 match " + books + " " + finales, x, x.match(), match);
        Checks.fine("42 ways " + books + " " + finales, x, x.ways(), ways);
    }

    private static void matching() {
        dealtAs("", "", 0, 1);
        dealtAs("", "12", 0, 1);
        dealtAs("1", "", 0, 0);
        dealtAs("1", "1", 1, 1);
        dealtAs("1", "2", 0, 0);
        dealtAs("11", "1", 1, 0);
        dealtAs("12", "21", 2, 1);
        dealtAs("112", "1112", 3, 6);
        dealtAs("112", "12", 2, 0);
        dealtAs("111111", "11111111", 6, 20160);
        dealtAs("123456", "12345612", 6, 4);
        dealtAs("111222", "11222222", 5, 0);
        LastPages x = Checks.with(Shelves.MOOR);
        Checks.fine("41 two", x, x.match(), 2);
        Checks.fine("42 not all", x, x.ways(), 0);
        x.call(0, true);
        Checks.fine("41 three", x, x.match(), 3);
        x.bind(3, 0);
        Checks.fine("41 what is bound is not minded", x, x.match(), 3);
    }

    private static void clashAs(String books, String finales, int many, int set) {
        LastPages x = Checks.with(dealt(books, finales));
        if (set < 0) {
            Checks.refused("43 none " + books + " " + finales, x, x.clash(), 8);
            Checks.refused("44 none " + books + " " + finales, x, x.clashSet(), 8);
        } else {
            Checks.fine("43 clash " + books + " " + finales, x, x.clash(), many);
            Checks.fine("44 clash " + books + " " + finales, x, x.clashSet(), set);
        }
    }

    private static void clashing() {
        clashAs("", "", 0, -1);
        clashAs("12", "12", 0, -1);
        clashAs("1", "", 1, 1);
        clashAs("12", "1", 1, 2);
        clashAs("1121", "12", 2, 3);
        clashAs("2121", "12", 2, 5);
        clashAs("213131", "1122333", 3, 42);
        clashAs("111222", "1122", 3, 7);
        clashAs("111223", "1122", 1, 32);
        LastPages x = Checks.with(Shelves.MOOR);
        Checks.fine("43 one without", x, x.clash(), 1);
        Checks.fine("44 the least as a number", x, x.clashSet(), 1);
        x.call(0, true);
        Checks.fine("44 lamp", x, x.clashSet(), 4);
    }

    private static void finishAs(String books, String finales, int many, int set) {
        LastPages x = Checks.with(dealt(books, finales));
        if (set < 0) {
            Checks.refused("45 none " + books + " " + finales, x, x.finish(), 8);
            Checks.refused("46 none " + books + " " + finales, x, x.finishSet(), 8);
        } else {
            Checks.fine("45 finish " + books + " " + finales, x, x.finish(), many);
            Checks.fine("46 finish " + books + " " + finales, x, x.finishSet(), set);
        }
    }

    private static void finishing() {
        finishAs("", "", 0, 0);
        finishAs("", "1", 0, 0);
        finishAs("1", "", 0, -1);
        finishAs("12", "1", 0, -1);
        finishAs("1111", "1", 1, 1);
        finishAs("1212", "3121", 2, 6);
        finishAs("123456", "66554321", 6, 1 + 4 + 16 + 32 + 64 + 128);
        // Two finales of one turn each, of which one serves two books and the other one.
        LastPages x = Checks.with("state s;state p;state e final;turn a;turn b;turn c;rule s a to e;rule s b to e;rule p b to e;"
            + "rule p c to e;book k from s misses 1;book l from p misses 1;finale fa a;finale fc c;finale fb b;");
        Checks.fine("45 one serves both", x, x.finish(), 1);
        Checks.fine("46 one serves both", x, x.finishSet(), 4);
        x.bind(0, 2);
        Checks.fine("46 what is bound is not minded", x, x.finishSet(), 4);
        x.lead(0, 1, -1);
        Checks.fine("46 of several the least as a number", x, x.finishSet(), 3);
    }

    private static void lying() {
        LastPages x = Checks.with(Shelves.MOOR);
        Checks.fine("47 ann", x, x.liars(0), 1);
        Checks.fine("48 ann", x, x.liarSet(0), 1);
        Checks.fine("47 none", x, x.liars(1), 0);
        Checks.fine("48 none", x, x.liarSet(1), 0);
        Checks.refused("47 it has none anyway", x, x.liars(2), 8);
        Checks.refused("48 it has none anyway", x, x.liarSet(2), 8);
        x.call(0, true);
        Checks.fine("48 called a liar or not", x, x.liarSet(0), 1);
        x.call(1, true);
        Checks.fine("47 called liars or not", x, x.liars(0), 1);
        Checks.fine("47 called liars or not", x, x.liars(1), 0);

        // bob and cid agree against ann; dan speaks of another place; eve of another book.
        String text = "state s final;turn t;turn u;rule s t to s;rule s u to s;book k from s misses 2;book l from s misses 1;"
            + "reader ann;reader bob;reader cid;reader dan;reader eve;"
            + "hint k at 1 is t by ann;hint k at 1 is u by bob;hint k at 1 is u by cid;hint k at 2 is t by dan;hint l at 1 is u by eve;";
        LastPages y = Checks.with(text);
        Checks.fine("47 the fewest", y, y.liars(0), 1);
        Checks.fine("48 the fewest", y, y.liarSet(0), 1);
        LastPages z = Checks.with(text + "hint k at 2 is u by eve;");
        Checks.fine("47 two", z, z.liars(0), 2);
        Checks.fine("48 the least as a number", z, z.liarSet(0), 1 + 8);
        LastPages w = Checks.with(text + "hint k at 2 is u by bob;hint k at 2 is u by eve;");
        Checks.fine("47 two of five", w, w.liars(0), 2);
        Checks.fine("48 two of five", w, w.liarSet(0), 9);
        LastPages v = Checks.with(text + "hint k at 2 is u by ann;");
        Checks.fine("47 one who is against all", v, v.liars(0), 1);
        Checks.fine("48 one who is against all", v, v.liarSet(0), 1);
        LastPages u = Checks.with("state s final;turn t;turn u;rule s t to s;rule s u to s;book k from s misses 1;"
            + "reader ann;reader bob;hint k at 1 is t by bob;hint k at 1 is u by bob;");
        Checks.fine("48 one who is against himself", u, u.liarSet(0), 2);
        LastPages t = Checks.with("state s final;turn t;turn u;rule s t to s;book k from s misses 1;book l from s misses 1 u;"
            + "reader a;reader b;reader c;reader d;reader e;reader f;"
            + "hint k at 1 is u by a;hint k at 1 is u by b;hint k at 1 is u by c;hint k at 1 is u by d;hint k at 1 is u by e;hint k at 1 is u by f;");
        Checks.fine("47 all six", t, t.liars(0), 6);
        Checks.fine("48 all six", t, t.liarSet(0), 63);
        Checks.refused("47 a book that breaks", t, t.liars(1), 8);
    }

    private static void wrong() {
        LastPages x = Checks.with(Shelves.MOOR);
        for (int off : new int[] {-1, 4, 33, Integer.MAX_VALUE, Integer.MIN_VALUE}) {
            Checks.refused("37 no book", x, x.fits(off, 0), 2);
            Checks.refused("37 no finale", x, x.fits(0, off), 2);
            Checks.refused("38 no book", x, x.finalesOf(off), 2);
            Checks.refused("39 no finale", x, x.booksOf(off), 2);
            Checks.refused("40 no finale", x, x.oddness(off), 2);
            Checks.refused("47 no book", x, x.liars(off), 2);
            Checks.refused("48 no book", x, x.liarSet(off), 2);
        }
    }
}
