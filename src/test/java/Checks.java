import java.nio.charset.StandardCharsets;

/** What the tests share: counting wrong answers, and feeding texts. */
final class Checks {
    private static int asked = 0;
    private static int wrong = 0;

    private Checks() { }

    static void due(String what, long got, long want) {
        asked++;
        if (got != want) {
            wrong++;
            if (wrong <= 50) {
                System.out.println(what + ": answered " + got + ", due is " + want);
            }
        }
    }

    static void due(String what, boolean got, boolean want) {
        due(what, got ? 1 : 0, want ? 1 : 0);
    }

    /** A call that is refused: its answer is NONE, and STATUS tells why. */
    static void refused(String what, LastPages x, long got, int status) {
        due(what, got, -1);
        due(what + " status", x.status(), status);
    }

    static void refused(String what, LastPages x, boolean got, int status) {
        due(what, got, false);
        due(what + " status", x.status(), status);
    }

    /** A call that goes well. */
    static void fine(String what, LastPages x, long got, long want) {
        due(what, got, want);
        due(what + " status", x.status(), 0);
    }

    static void fine(String what, LastPages x, boolean got) {
        due(what, got, true);
        due(what + " status", x.status(), 0);
    }

    static void fraction(String what, LastPages x, long top, long bottom) {
        due(what + " top", x.top(), top);
        due(what + " bottom", x.bottom(), bottom);
    }

    static byte[] bytes(String text) {
        return text.getBytes(StandardCharsets.ISO_8859_1);
    }

    static int four(byte[] bytes, int at) {
        int v = 0;
        for (int i = at; i < at + 4; i++) {
            v = v << 8 | (i < bytes.length ? bytes[i] & 255 : ' ');
        }
        return v;
    }

    /** The last twenty are filled up with blanks, which the n of shelf() or weeks() leaves out. */
    static void feed(LastPages x, String text) {
        byte[] b = bytes(text);
        for (int i = 0; i < b.length; i += 20) {
            x.feed(four(b, i), four(b, i + 4), four(b, i + 8), four(b, i + 12), four(b, i + 16));
        }
    }

    static int shelf(LastPages x, String text) {
        feed(x, text);
        return x.shelf(text.length());
    }

    static int weeks(LastPages x, String text) {
        feed(x, text);
        return x.weeks(text.length());
    }

    /** A new object with a shelf that must be right. */
    static LastPages with(String text) {
        LastPages x = new LastPages();
        shelf(x, text);
        due("shelf status of " + text, x.status(), 0);
        return x;
    }

    static void end() {
        System.out.println(asked + " answers asked, " + wrong + " wrong");
        if (wrong > 0 || asked == 0) {
            System.exit(1);
        }
    }
}
