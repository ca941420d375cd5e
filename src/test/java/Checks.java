import java.nio.charset.StandardCharsets;

/** What the tests share: counting wrong answers, and feeding texts. */
final class Checks {
    private static int asked = 0;
    private static int wrong = 0;
    private static String within = "";

    private Checks() { }

    /** What stands ahead of each wrong answer that is told from now on. */
    static void within(String where) {
        within = where;
    }

    static int asked() {
        return asked;
    }

    static void due(String what, long got, long want) {
        judge(got == want, what + ": answered " + got + ", due is " + want);
    }

    static void same(String what, String got, String want) {
        judge(got.equals(want), what + ": got\n" + got + "\ndue is\n" + want);
    }

    private static void judge(boolean right, String ifNot) {
        asked++;
        if (!right) {
            wrong++;
            if (wrong <= 50) {
                System.out.println(within + ifNot);
            }
        }
    }

    static void due(String what, boolean got, boolean want) {
        due(what, got ? 1 : 0, want ? 1 : 0);
    }

    /** A call that is refused: its answer is NONE, and STATUS tells why. */
    static void refused(String what, LastPages x, long got, int status) {
        due(what, got, -1);
        due(what + " status", x.status(), status);
    }

    static void refused(String what, LastPages x, boolean got, int status) {
        due(what, got, false);
        due(what + " status", x.status(), status);
    }

    /** A call that goes well. */
    static void fine(String what, LastPages x, long got, long want) {
        due(what, got, want);
        due(what + " status", x.status(), 0);
    }

    static void fine(String what, LastPages x, boolean got) {
        due(what, got, true);
        due(what + " status", x.status(), 0);
    }

    static void fraction(String what, LastPages x, long top, long bottom) {
        due(what + " top", x.top(), top);
        due(what + " bottom", x.bottom(), bottom);
    }

    static byte[] bytes(String text) {
        return text.getBytes(StandardCharsets.ISO_8859_1);
    }

    static int four(byte[] bytes, int at) {
        int v = 0;
        for (int i = at; i < at + 4; i++) {
            v = v << 8 | (i < bytes.length ? bytes[i] & 255 : ' ');
        }
        return v;
    }

    /** The last twenty are filled up with blanks, which the n of shelf() or weeks() leaves out. */
    static void feed(LastPages x, String text) {
        byte[] b = bytes(text);
        for (int i = 0; i < b.length; i += 20) {
            x.feed(four(b, i), four(b, i + 4), four(b, i + 8), four(b, i + 12), four(b, i + 16));
        }
    }

    static int shelf(LastPages x, String text) {
        feed(x, text);
        return x.shelf(text.length());
    }

    static int weeks(LastPages x, String text) {
        feed(x, text);
        return x.weeks(text.length());
    }

    /** A new object with a shelf that must be right. */
    static LastPages with(String text) {
        LastPages x = new LastPages();
        shelf(x, text);
        due("shelf status of " + text, x.status(), 0);
        return x;
    }

    static void rightShelf(String text) {
        LastPages x = new LastPages();
        shelf(x, text);
        due("right: " + text, x.status(), 0);
        due("no fault: " + text, x.fault(0), 0);
        due("no place: " + text, x.fault(1), -1);
    }

    /** A text, behind a right head, that has a fault, at a place that is counted from the end of the head. */
    static void faultyShelf(String what, String head, String text, int kind, int at) {
        LastPages x = new LastPages();
        refused(what + ": " + text, x, shelf(x, head + text), 10);
        due(what + ": fault of " + text, x.fault(0), kind);
        due(what + ": place of " + text, x.fault(1), head.length() + at);
    }

    static void rightWeeks(String shelf, String text) {
        LastPages x = with(shelf);
        weeks(x, text);
        due("right: " + text, x.status(), 0);
        due("no fault: " + text, x.fault(0), 0);
        due("no place: " + text, x.fault(1), -1);
    }

    static void faultyWeeks(String what, String shelf, String text, int kind, int at) {
        LastPages x = with(shelf);
        refused(what + ": " + text, x, weeks(x, text), 10);
        due(what + ": fault of " + text, x.fault(0), kind);
        due(what + ": place of " + text, x.fault(1), at);
        refused(what + ": no weeks by " + text, x, x.live(0), 8);
    }

    static void end() {
        System.out.println(asked + " answers asked, " + wrong + " wrong");
        if (wrong > 0 || asked == 0) {
            System.exit(1);
        }
    }
}
