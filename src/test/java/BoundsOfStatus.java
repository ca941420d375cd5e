import java.nio.file.Files;
import java.nio.file.Path;
import java.util.function.ToLongFunction;

/** The sentences of the Terms on STATUS, and what the interface says ahead of the calls. */
final class BoundsOfStatus {
    private BoundsOfStatus() { }

    static void run() {
        Sentences.terms("STATUS of a call is the first of these that holds:", BoundsOfStatus::first);
        kinds();
        Sentences.terms("A call with another STATUS than 0 gives NONE, or false, and changes nothing but STATUS",
            BoundsOfStatus::unchanged);
        Sentences.terms("(but shelf(), weeks() with 10 the tape, and what fault() tells).", BoundsOfStatus::texts);
        Sentences.terms("status(), fault(), feed(), top(), bottom() have none.", BoundsOfStatus::none);
        interfaces();
    }

    /** Where several hold at once. */
    private static void first() {
        LastPages x = Rich.object();
        x.isEnding(9, 9, 99);
        Checks.due("1, 2", x.status(), 1);
        x.isEnding(9, 3, 99);
        Checks.due("2, 3", x.status(), 2);
        x.isEnding(0, 3, 99);
        Checks.due("3, 4, 5", x.status(), 3);
        x.isEnding(0, 0, 99);
        Checks.due("4, 5", x.status(), 4);
        x.tray(9, 0, 61);
        Checks.due("1, 5", x.status(), 1);
        x.tray(0, 9, -1);
        Checks.due("1, 6", x.status(), 1);
        x.copyFinale(9, 9);
        Checks.due("1, 2", x.status(), 1);
        x.copyFinale(9, 3);
        Checks.due("2, 3", x.status(), 2);
        x.chance(2, 2, 9);
        Checks.due("2, 5, 8", x.status(), 2);
        x.chance(2, 2, 0);
        Checks.due("5, 8", x.status(), 5);
        x.book(9, 9);
        Checks.due("2, 5", x.status(), 2);
        LastPages y = Rich.plain();
        y.live(-1);
        Checks.due("5, 8", y.status(), 5);
        y.lived(5);
        Checks.due("5, 8", y.status(), 5);
    }

    private static void due(int status, ToLongFunction<LastPages> call) {
        LastPages x = Rich.object();
        call.applyAsLong(x);
        Checks.due("status", x.status(), status);
    }

    private static void kinds() {
        Sentences.terms("1 no such TRAY (or sort).", () -> {
            due(1, x -> x.read(-1, 0));
            due(1, x -> x.read(4, 0));
            due(1, x -> x.tray(0, -1, 1) ? 1 : 0);
            due(1, x -> x.tray(0, 4, 1) ? 1 : 0);
        });
        Sentences.terms("2 no such STATE, TURN, BOOK, FINALE, READER, OFFER, WATCH.", () -> {
            for (int off : new int[] {-1, 3, 8, 31, 32, Integer.MAX_VALUE, Integer.MIN_VALUE}) {
                due(2, x -> x.rule(off, 0));
                due(2, x -> x.rule(0, off));
                due(2, x -> x.endings(off));
                due(2, x -> x.oddness(off));
                due(2, x -> x.call(off, true) ? 1 : 0);
                due(2, x -> x.offer(off, 0));
                due(2, x -> x.watch(off, 0));
            }
        });
        Sentences.terms("3 the TRAY is MISSING.", () -> {
            due(3, x -> x.read(3, 0));
            due(3, x -> x.write(3, 0, 1) ? 1 : 0);
            due(3, x -> x.pour(3, 0, 0, 0, 0) ? 1 : 0);
            due(3, x -> x.copyFinale(0, 3));
            due(3, x -> x.isEnding(0, 3, 1));
        });
        Sentences.terms("4 a place that the TRAY has not, or too few numbers.", () -> {
            due(4, x -> x.read(0, 2));
            due(4, x -> x.write(0, -1, 1) ? 1 : 0);
            due(4, x -> x.pour(1, 2, 2, 0, 2) ? 1 : 0);
            due(4, x -> x.copyFinale(1, 2));
            due(4, x -> x.isEnding(1, 2, 2));
        });
        Sentences.terms("5 a number that can't be (a set with what there is none of, too).", () -> {
            due(5, x -> x.known(4));
            due(5, x -> x.known(5));
            due(5, x -> x.known(-1));
            due(0, x -> x.known(3));
            due(5, x -> x.many(12));
            due(5, x -> x.guard(4));
        });
        Sentences.terms("6 below 0 (a TRAY's length).", () -> due(6, x -> x.tray(0, 0, -1) ? 1 : 0));
        Sentences.terms("7 one too many.", () -> {
            LastPages x = Rich.marked();
            x.mark();
            Checks.due("status", x.status(), 7);
        });
        Sentences.terms("8 there is none.", () -> {
            due(8, x -> x.page(0, 0));
            due(8, x -> x.best(2));
            due(8, x -> x.loose(0));
        });
        Sentences.terms("9 it can't be.", () -> {
            due(9, x -> x.bind(0, 1) ? 1 : 0);
            due(9, x -> x.call(1, true) ? 1 : 0);
            due(9, x -> x.close(0, true) ? 1 : 0);
        });
        Sentences.terms("10 a FAULT.", () -> {
            due(10, x -> x.shelf(1));
            due(10, x -> x.weeks(1));
        });
        Sentences.terms("11 TRAYS of unlike sorts.", () -> due(11, x -> x.pour(0, 0, 1, 0, 1) ? 1 : 0));
        Sentences.terms("0 else.", () -> {
            due(0, x -> x.read(0, 1));
            due(0, x -> x.shelf(9));
            due(0, x -> x.mark());
            due(0, x -> x.weeks(0));
            due(0, x -> x.pour(1, 0, 2, 0, 1) ? 1 : 0);
            LastPages y = Rich.object();
            afterRefused(y, LastPages::hopeless);
            afterRefused(y, LastPages::match);
            afterRefused(y, LastPages::ways);
            afterRefused(y, LastPages::clash);
            afterRefused(y, LastPages::clashSet);
            afterRefused(y, LastPages::barest);
            afterRefused(y, x -> x.endings(0));
            afterRefused(y, x -> x.read(0, 0));
            afterRefused(y, x -> x.live(0));
            afterRefused(y, x -> x.lived(0));
            afterRefused(y, LastPages::mark);
            afterRefused(y, LastPages::back);
        });
    }

    private static void afterRefused(LastPages x, ToLongFunction<LastPages> call) {
        x.many(12);
        Checks.due("refused", x.status(), 5);
        call.applyAsLong(x);
        Checks.due("status", x.status(), 0);
    }

    /** One refused call of each method; the tests of the promises ask for each STATUS. */
    private static void unchanged() {
        Sentences.denied(5, Rich::object, x -> x.tray(0, 0, 61));
        Sentences.denied(4, Rich::object, x -> x.write(0, 2, 9));
        Sentences.denied(11, Rich::object, x -> x.pour(0, 0, 1, 0, 1));
        Sentences.refused(5, Rich::object, x -> x.shelf(21));
        Sentences.refused(5, Rich::object, x -> x.weeks(21));
        Sentences.refused(4, Rich::object, x -> x.copyFinale(1, 2));
        Sentences.denied(9, Rich::object, x -> x.bind(1, 0));
        Sentences.refused(8, Rich::object, x -> x.loose(0));
        Sentences.denied(9, Rich::object, x -> x.call(1, true));
        Sentences.denied(5, Rich::object, x -> x.strange(0, 10));
        Sentences.denied(9, Rich::object, x -> x.close(0, true));
        Sentences.denied(2, Rich::object, x -> x.lead(0, 0, 3));
        Sentences.denied(8, Rich::object, x -> x.chance(2, 1, 0));
        Sentences.refused(5, Rich::object, x -> x.live(10000));
        Sentences.denied(5, Rich::object, x -> x.mean(0, 21));
        Sentences.refused(7, Rich::marked, LastPages::mark);
        Sentences.refused(8, Rich::plain, LastPages::back);
    }

    private static void texts() {
        LastPages x = Rich.object();
        Checks.refused("a shelf with a fault", x, x.shelf(7), 10);
        Checks.due("it tells the fault", x.fault(0), 2);
        Checks.due("it tells the place", x.fault(1), 7);
        Checks.due("the tape is empty, but for what is fed now", x.feed(0, 0, 0, 0, 0), 20);
        Checks.same("all else", Seen.butTexts(x), Seen.butTexts(Rich.object()));
        LastPages y = Rich.object();
        Checks.refused("weeks with a fault", y, y.weeks(20), 10);
        Checks.due("it tells the fault", y.fault(0), 2);
        Checks.due("it tells the place", y.fault(1), 0);
        Checks.due("the tape is empty, but for what is fed now", y.feed(0, 0, 0, 0, 0), 20);
        Checks.same("all else", Seen.butTexts(y), Seen.butTexts(Rich.object()));
        // Parts and steps ahead of the fault, too, are not taken.
        LastPages z = Rich.object();
        Checks.weeks(z, "state zz;");
        Checks.refused("a whole shelf and a fault", z, Checks.shelf(z, "state zz;turn yy;reader w;?"), 10);
        Checks.refused("whole weeks and a fault", z, Checks.weeks(z, "call ra;stop;?"), 10);
        Checks.same("all else", Seen.butTexts(z), Seen.butTexts(Rich.object()));
    }

    private static void none() {
        LastPages x = Rich.object();
        for (int status : new int[] {5, 8, 0}) {
            x.many(status == 5 ? 12 : 0);
            if (status == 8) {
                x.loose(0);
            }
            Checks.due("status", x.status(), status);
            x.status();
            x.fault(0);
            x.fault(1);
            x.fault(2);
            x.fault(-1);
            x.top();
            x.bottom();
            x.feed(0, 0, 0, 0, 0);
            Checks.due("status still", x.status(), status);
        }
        for (int i = 0; i < 45; i++) {
            x.feed(0, 0, 0, 0, 0);
        }
        x.loose(0);
        Checks.due("full", x.feed(0, 0, 0, 0, 0), -1);
        Checks.due("status still", x.status(), 8);
    }

    private static final String CALLS = "TRAYS: tray write read pour; texts: feed shelf weeks fault many rule odd "
        + "book page finale hint "
        + "offer watch copyFinale; what is done: bind loose call strange close lead; endings: endings hopeless best bestAt next "
        + "chance may isEnding; finales: fits finalesOf booksOf oddness match ways clash clashSet finish finishSet "
        + "liars liarSet; "
        + "offers, watches: known buy buySet cheapest guard guardSet barest; WEEKS: live lived mean; MARKS: mark back";

    private static void interfaces() {
        for (String group : CALLS.split("; ")) {
            String name = group.substring(0, group.indexOf(':'));
            String calls = group.substring(group.indexOf(':') + 2);
            String quote = "Ahead of the calls `" + calls.replace(" ", "`, `") + "` the interface says: ---- " + name + ".";
            Sentences.terms(quote, () -> {
                String source = source();
                int from = source.indexOf("// ---- " + name + "\n");
                int to = source.indexOf("// ----", from + 1);
                Checks.due("it says so, once", from >= 0 && source.indexOf("// ---- " + name + "\n", from + 1) < 0, true);
                for (String call : calls.split(" ")) {
                    int at = source.indexOf(" " + call + "(", from);
                    Checks.due("ahead of " + call, at > from && (to < 0 || at < to), true);
                }
            });
        }
    }

    private static String source() {
        try {
            return Files.readString(Path.of("src/main/java/LastPages.java"));
        } catch (java.io.IOException e) {
            return "";
        }
    }
}
