import java.nio.file.Files;
import java.nio.file.Path;
import java.util.ArrayList;
import java.util.List;
import java.util.Map;
import java.util.TreeMap;
import java.util.TreeSet;
import java.util.function.Predicate;
import java.util.function.Supplier;
import java.util.function.ToLongFunction;

/**
 * Tests of single sentences of ../shared/DOC.md. Each test quotes the words that it is for; the quote must stand in the
 * document, once, and in the end all words of the Terms and of the promises must have been quoted. Each STATUS that a
 * promise names must have been asked for in a test of that promise.
 */
final class Sentences {
    /** A piece of the document, and which of its signs were quoted. */
    private static final class Piece {
        final String text;
        final boolean[] quoted;

        Piece(String text) {
            this.text = text;
            quoted = new boolean[text.length()];
        }
    }

    private static final int TERMS = 0;
    private static final int PROMISES = 60;
    private static final int AHEAD = 61;
    private static final List<Piece> PIECES = new ArrayList<>();
    private static final Map<Integer, TreeSet<Integer>> REFUSED = new TreeMap<>();
    private static int promise = TERMS;
    private static int tests = 0;

    private Sentences() { }

    static void readDocument() throws Exception {
        String doc = Files.readString(Path.of("../shared/DOC.md"));
        int from = doc.indexOf("## Terms") + "## Terms".length();
        for (int i = 1; i <= PROMISES + 1; i++) {
            int to = doc.indexOf(i <= PROMISES ? "## Promise " + i + ":" : "## Not promised", from);
            String text = doc.substring(from, to).replaceAll("```(text)?", " ").replaceAll("==== [2-5]\\.", " ");
            text = i == 1 ? text : text.replaceFirst("(?s)^.*?`[^`]*`:", " ");
            PIECES.add(new Piece(text.replaceAll("\\s+", " ")));
            from = to;
        }
        from = doc.indexOf("An object is used for");
        PIECES.add(new Piece(doc.substring(from, doc.indexOf("## The public face")).replaceAll("\\s+", " ")));
    }

    static void terms(String quote, Runnable checks) {
        test(TERMS, quote, checks);
    }

    /** A sentence that stands ahead of the public face. */
    static void ahead(String quote, Runnable checks) {
        test(AHEAD, quote, checks);
    }

    static void promise(int number, String quote, Runnable checks) {
        test(number, quote, checks);
    }

    private static void test(int number, String quote, Runnable checks) {
        quote(number, quote);
        promise = number;
        tests++;
        int before = Checks.asked();
        Checks.within((number == TERMS ? "Terms" : number == AHEAD ? "What it is" : "Promise " + number) + " \"" + quote + "\": ");
        checks.run();
        Checks.due("a test that asks", Checks.asked() > before, true);
        Checks.within("");
    }

    private static void quote(int number, String quote) {
        Piece piece = PIECES.get(number);
        int at = piece.text.indexOf(quote);
        boolean once = !quote.isEmpty() && at >= 0 && piece.text.indexOf(quote, at + 1) < 0;
        Checks.due("stands once in " + number + ": " + quote, once, true);
        for (int i = at; once && i < at + quote.length(); i++) {
            piece.quoted[i] = true;
        }
    }

    /** A call that must be refused: NONE, the STATUS that is due, and all else as in an object without this call. */
    static void refused(int status, Supplier<LastPages> maker, ToLongFunction<LastPages> call) {
        LastPages x = maker.get();
        long got = call.applyAsLong(x);
        judge(status, maker, x, got == LastPages.NONE);
    }

    /** Likewise a call that answers true or false. */
    static void denied(int status, Supplier<LastPages> maker, Predicate<LastPages> call) {
        LastPages x = maker.get();
        boolean got = call.test(x);
        judge(status, maker, x, !got);
    }

    private static void judge(int status, Supplier<LastPages> maker, LastPages x, boolean isNone) {
        Checks.due("NONE or false of a refused call", isNone, true);
        Checks.due("STATUS of a refused call", x.status(), status);
        Checks.same("all else behind a refused call", Seen.of(x), Seen.of(maker.get()));
        asked(status);
    }

    /** A STATUS of the promise at hand that is asked for otherwise than by the two above. */
    static void asked(int status) {
        REFUSED.computeIfAbsent(promise, p -> new TreeSet<>()).add(status);
    }

    /** "promise:status,status" of all promises that name one. */
    private static final String STATUSES = "5:1,5,6 6:1,3,4 7:1,3,4 8:1,3,4,6,11 10:5,10 11:5,10 13:5 14:2,8 15:2 16:2,5,8 "
        + "17:2,8 18:2,8 19:5 20:2,5 21:2,5 22:1,2,3,4 23:2,9 24:2,8 25:2,9 26:2,5 27:2,9 28:2 29:2 31:2,8 32:2,5,8 33:2,8 "
        + "34:2,5,8 35:2,5 36:1,2,3,4,5 37:2 38:2 39:2 40:2 43:8 44:8 45:8 46:8 47:2,8 48:2,8 49:5 50:5 51:5 52:8 53:5,8 "
        + "54:5,8 55:8 56:5,8 57:5,8 58:5,8 59:7 60:8";

    static void end() {
        for (String entry : STATUSES.split(" ")) {
            int number = Integer.parseInt(entry.substring(0, entry.indexOf(':')));
            for (String status : entry.substring(entry.indexOf(':') + 1).split(",")) {
                boolean is = REFUSED.getOrDefault(number, new TreeSet<>()).contains(Integer.parseInt(status));
                Checks.due("promise " + number + ": a test of STATUS " + status, is, true);
            }
        }
        for (int i = 0; i < PIECES.size(); i++) {
            String left = unquoted(PIECES.get(i));
            Checks.due("words of " + i + " that no test quotes:" + left, left.isEmpty(), true);
        }
        System.out.println(tests + " sentences tested");
        Checks.end();
    }

    private static String unquoted(Piece piece) {
        StringBuilder left = new StringBuilder();
        for (int i = 0; i < piece.text.length(); i++) {
            boolean is = piece.quoted[i] || !Character.isLetterOrDigit(piece.text.charAt(i));
            left.append(is ? ' ' : piece.text.charAt(i));
        }
        return left.toString().replaceAll("\\s+", " ").stripTrailing();
    }
}
