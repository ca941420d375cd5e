/** Promises 59 and 60: marks. */
public final class MarksTest {
    public static void main(String[] args) {
        counting();
        keeping();
        untouched();
        deep();
        Checks.end();
    }

    private static void counting() {
        LastPages x = new LastPages();
        Checks.refused("60 none", x, x.back(), 8);
        for (int i = 1; i <= 3; i++) {
            Checks.fine("59 mark", x, x.mark(), i);
        }
        Checks.refused("59 a fourth", x, x.mark(), 7);
        for (int i = 2; i >= 0; i--) {
            Checks.fine("60 back", x, x.back(), i);
        }
        Checks.refused("60 none", x, x.back(), 8);
        Checks.fine("59 anew", x, x.mark(), 1);
    }

    private static void keeping() {
        LastPages x = Checks.with(Shelves.MOOR);
        x.call(0, true);
        x.bind(0, 0);
        Checks.weeks(x, "loose moor;");
        x.mark();
        x.loose(0);
        x.bind(3, 3);
        x.call(0, false);
        x.call(1, true);
        x.strange(0, 9);
        x.close(0, true);
        x.lead(0, 0, -1);
        Checks.weeks(x, "stop;stop;");
        Checks.fine("60 back", x, x.back(), 0);
        Checks.fine("60 bound", x, x.many(10), 1);
        Checks.fine("60 by which", x, x.book(0, 5), 0);
        Checks.fine("60 liars", x, x.many(11), 1);
        Checks.fine("60 odd", x, x.odd(0), 2);
        Checks.fine("60 finals", x, x.many(9), 6);
        Checks.fine("60 rules", x, x.rule(0, 0), 2);
        Checks.fine("60 weeks", x, x.live(0), 1);
        Checks.fine("60 which loose", x, x.lived(2), 1);

        x.mark();
        Checks.shelf(x, "state s;turn zoo;book b from s misses 1;");
        Checks.fine("10 one book", x, x.many(2), 1);
        x.back();
        int[] due = {4, 4, 4, 4, 2, 3, 3, 3, 7, 6, 0, 1};
        for (int what = 0; what < due.length; what++) {
            Checks.fine("60 many " + what, x, x.many(what), due[what]);
        }
        Checks.fine("60 pages", x, x.page(1, 1), 2);
        Checks.fine("60 finales", x, x.finale(2, 2), 1);
        Checks.fine("60 hints", x, x.hint(1, 3), 1);
        Checks.fine("60 offers", x, x.offer(1, 1), 10);
        Checks.fine("60 watches", x, x.watch(2, 0), 3);
        Checks.fine("60 what follows", x, x.known(1), 13);
        Checks.fine("60 endings", x, x.endings(3), 2);
        Checks.fine("60 names", x, Checks.weeks(x, "bind rose i;call bob;loose tide;"), 3);
        Checks.refused("60 names of the other are gone", x, Checks.weeks(x, "loose b;"), 10);

        LastPages y = Checks.with(Shelves.MOOR);
        Checks.weeks(y, "call ann;");
        y.mark();
        y.live(0);
        Checks.fine("56 a liar", y, y.many(11), 1);
        y.back();
        Checks.fine("60 believed", y, y.many(11), 0);
        y.mark();
        Checks.shelf(y, "");
        Checks.refused("56 no weeks", y, y.live(0), 8);
        y.back();
        Checks.fine("60 weeks again", y, y.live(0), 1);
        LastPages z = Checks.with(Shelves.MOOR);
        z.mark();
        Checks.weeks(z, "call ann;");
        z.back();
        Checks.refused("60 no weeks as it was", z, z.live(0), 8);
    }

    private static void untouched() {
        LastPages x = Checks.with(Shelves.MOOR);
        x.mark();
        x.tray(0, 0, 2);
        x.write(0, 0, 5);
        x.chance(3, 2, 0);
        Checks.shelf(x, "state ?");
        x.feed(0x73746f70, 0x3b202020, 0, 0, 0);
        x.back();
        Checks.fine("60 trays are no part of it", x, x.read(0, 0), 5);
        Checks.fraction("60 nor is the fraction", x, 1, 2);
        Checks.due("60 nor is the fault", x.fault(0), 1);
        Checks.fine("60 nor is the tape", x, x.weeks(5), 1);
    }

    private static void deep() {
        LastPages x = Checks.with(Shelves.MOOR);
        for (int i = 1; i <= 3; i++) {
            x.strange(0, i);
            x.mark();
        }
        x.strange(0, 9);
        for (int i = 3; i >= 1; i--) {
            x.back();
            Checks.fine("60 the latest", x, x.odd(0), i);
            x.strange(0, 8);
        }
        // What is done behind a way back must not reach the marks below, nor those set anew.
        x.strange(0, 4);
        x.mark();
        x.strange(0, 5);
        x.mark();
        x.strange(0, 6);
        x.back();
        x.strange(0, 7);
        x.mark();
        x.strange(0, 8);
        x.back();
        Checks.fine("60 anew", x, x.odd(0), 7);
        x.back();
        Checks.fine("60 below", x, x.odd(0), 4);
        Checks.refused("60 no more", x, x.back(), 8);
        Checks.fine("60 refused, nothing changes", x, x.odd(0), 4);
    }
}
