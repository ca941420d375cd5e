/** Promises 1 to 8: a new object, status, top, bottom, and trays. */
public final class TraysTest {
    public static void main(String[] args) {
        aNewObject();
        trays();
        writing();
        pouring();
        statusAndFraction();
        Checks.end();
    }

    private static void aNewObject() {
        LastPages x = new LastPages();
        Checks.due("1 status", x.status(), 0);
        Checks.fraction("1", x, 0, 1);
        for (int tray = 0; tray < 4; tray++) {
            Checks.refused("1 read of a missing tray", x, x.read(tray, 0), 3);
        }
        for (int what = 0; what <= 11; what++) {
            Checks.fine("1 many " + what, x, x.many(what), 0);
        }
        Checks.due("1 fault", x.fault(0), -1);
        Checks.due("1 fault place", x.fault(1), -1);
        Checks.refused("1 no weeks", x, x.live(0), 8);
        Checks.refused("1 no marks", x, x.back(), 8);
        Checks.refused("1 an empty tape", x, x.shelf(1), 5);
        Checks.due("1 the tape", x.feed(0, 0, 0, 0, 0), 20);
        Checks.due("NONE", LastPages.NONE, -1);
    }

    private static void trays() {
        LastPages x = new LastPages();
        Checks.refused("5 tray -1", x, x.tray(-1, 0, 1), 1);
        Checks.refused("5 tray 4", x, x.tray(4, 0, 1), 1);
        Checks.refused("5 sort -1", x, x.tray(0, -1, 1), 1);
        Checks.refused("5 sort 4, 1 ahead of 6", x, x.tray(0, 4, -1), 1);
        Checks.refused("5 61 numbers", x, x.tray(0, 0, 61), 5);
        Checks.refused("5 far too many", x, x.tray(0, 0, Integer.MAX_VALUE), 5);
        Checks.refused("5 below 0", x, x.tray(0, 0, -1), 6);
        Checks.refused("5 far below 0", x, x.tray(0, 0, Integer.MIN_VALUE), 6);
        Checks.refused("5 still missing", x, x.read(0, 0), 3);
        Checks.fine("5 none", x, x.tray(0, 0, 0));
        Checks.refused("5 none is there", x, x.read(0, 0), 4);
        Checks.fine("5 sixty", x, x.tray(3, 3, 60));
        Checks.fine("5 the last is 0", x, x.read(3, 59), 0);
        Checks.fine("5 write", x, x.write(3, 59, 7));
        Checks.refused("5 a refused one changes nothing", x, x.tray(3, 3, 61), 5);
        Checks.fine("5 it stays", x, x.read(3, 59), 7);
        Checks.fine("5 anew", x, x.tray(3, 3, 60));
        Checks.fine("5 all 0 again", x, x.read(3, 59), 0);
    }

    private static void writing() {
        LastPages x = new LastPages();
        long[] values = {0, 1, -1, 127, 128, -128, -129, 255, 256, 32767, 32768, -32769, 1L << 31, (1L << 31) - 1, 1L << 32,
            Long.MIN_VALUE, Long.MAX_VALUE, 0x123456789abcdefL};
        for (int sort = 0; sort < 4; sort++) {
            x.tray(sort, sort, 2);
            for (long v : values) {
                long cut = sort == 0 ? (byte) v : sort == 1 ? (short) v : sort == 2 ? (int) v : v;
                Checks.fine("6 write " + v + " in sort " + sort, x, x.write(sort, 1, v));
                Checks.fine("7 read " + v + " in sort " + sort, x, x.read(sort, 1), cut);
                Checks.fine("6 its neighbour", x, x.read(sort, 0), 0);
            }
        }
        LastPages y = new LastPages();
        Checks.refused("6 tray -1", y, y.write(-1, 0, 1), 1);
        Checks.refused("6 tray 4", y, y.write(4, 0, 1), 1);
        Checks.refused("6 missing, ahead of the place", y, y.write(1, -1, 1), 3);
        Checks.refused("7 tray -1", y, y.read(-1, 0), 1);
        Checks.refused("7 tray 4", y, y.read(4, 0), 1);
        Checks.refused("7 missing, ahead of the place", y, y.read(1, -1), 3);
        y.tray(1, 0, 3);
        Checks.refused("6 place -1", y, y.write(1, -1, 1), 4);
        Checks.refused("6 place 3", y, y.write(1, 3, 1), 4);
        Checks.refused("7 place -1", y, y.read(1, -1), 4);
        Checks.refused("7 place 3", y, y.read(1, 3), 4);
        Checks.refused("7 place far off", y, y.read(1, Integer.MAX_VALUE), 4);
        Checks.refused("7 place far below", y, y.read(1, Integer.MIN_VALUE), 4);
        y.write(1, 0, -1);
        Checks.fine("7 -1 is no NONE", y, y.read(1, 0), -1);
    }

    private static LastPages poured() {
        LastPages x = new LastPages();
        x.tray(0, 1, 5);
        x.tray(1, 1, 3);
        x.tray(2, 2, 5);
        for (int i = 0; i < 5; i++) {
            x.write(0, i, 10 + i);
        }
        return x;
    }

    private static void row(String what, LastPages x, int tray, long... row) {
        for (int i = 0; i < row.length; i++) {
            Checks.fine(what + " place " + i, x, x.read(tray, i), row[i]);
        }
    }

    private static void pouring() {
        LastPages x = poured();
        Checks.fine("8 to another", x, x.pour(0, 1, 1, 0, 3));
        row("8 to another", x, 1, 11, 12, 13);
        row("8 from one", x, 0, 10, 11, 12, 13, 14);
        Checks.fine("8 up in the same", x, x.pour(0, 0, 0, 1, 4));
        row("8 up", x, 0, 10, 10, 11, 12, 13);
        Checks.fine("8 down in the same", x, x.pour(0, 1, 0, 0, 4));
        row("8 down", x, 0, 10, 11, 12, 13, 13);
        Checks.fine("8 none", x, x.pour(0, 5, 1, 3, 0));
        row("8 none changes nothing", x, 1, 11, 12, 13);

        LastPages y = poured();
        Checks.refused("8 1 first", y, y.pour(4, 9, 3, 9, -1), 1);
        Checks.refused("8 1 of the other", y, y.pour(3, 9, -1, 9, -1), 1);
        Checks.refused("8 3 next", y, y.pour(3, 9, 0, 9, -1), 3);
        Checks.refused("8 3 of the other", y, y.pour(0, 9, 3, 9, -1), 3);
        Checks.refused("8 11 ahead of 6", y, y.pour(0, 9, 2, 9, -1), 11);
        Checks.refused("8 6 ahead of 4", y, y.pour(0, 9, 1, 9, -1), 6);
        Checks.refused("8 too few here", y, y.pour(0, 3, 1, 0, 3), 4);
        Checks.refused("8 too few there", y, y.pour(0, 0, 1, 1, 3), 4);
        Checks.refused("8 place below", y, y.pour(0, -1, 1, 0, 1), 4);
        Checks.refused("8 place below there", y, y.pour(0, 0, 1, -1, 1), 4);
        Checks.refused("8 none from too far", y, y.pour(0, 6, 1, 0, 0), 4);
        Checks.refused("8 no sum wraps", y, y.pour(0, 2, 1, 0, Integer.MAX_VALUE), 4);
        Checks.refused("8 no place wraps", y, y.pour(0, Integer.MAX_VALUE, 1, 0, 2), 4);
        row("8 nothing was changed", y, 1, 0, 0, 0);
    }

    private static void statusAndFraction() {
        LastPages x = Checks.with(Shelves.MOOR);
        x.many(12);
        Checks.due("2 of the latest call", x.status(), 5);
        Checks.due("2 status itself has none", x.status(), 5);
        x.feed(0, 0, 0, 0, 0);
        x.fault(0);
        x.top();
        x.bottom();
        Checks.due("2 nor have feed, fault, top, bottom", x.status(), 5);
        x.many(0);
        Checks.due("2 0 again", x.status(), 0);
        Checks.fine("34 a chance", x, x.chance(3, 2, 0));
        Checks.fraction("3, 4 of it", x, 1, 2);
        Checks.refused("34 refused", x, x.chance(0, 1, 0), 8);
        Checks.fraction("3, 4 a refused one changes nothing", x, 1, 2);
        Checks.fine("34 none has it", x, x.chance(3, 2, 2));
        Checks.fraction("3, 4 0 by 1", x, 0, 1);
        Checks.fine("34 all have it", x, x.chance(3, 1, 3));
        Checks.fraction("3, 4 1 by 1", x, 1, 1);
    }
}
