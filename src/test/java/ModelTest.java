import java.lang.reflect.Method;
import java.util.ArrayList;
import java.util.Arrays;
import java.util.List;
import java.util.Random;

/** Runs of random calls, answered by LastPages and by the Model: all answers, STATUS and FRACTION must be alike. */
public final class ModelTest {
    private static final List<Method> CALLS = new ArrayList<>();
    private static final String[] NAMES = {"a", "b", "c", "d", "e", "f", "g", "h", "i", "j", "k", "l", "m", "n", "o", "p",
        "q", "r", "s", "t", "u", "v", "w", "x", "y", "z", "ab", "cd", "abcdefgh", "zzzzzzzz", "ofs", "tok",
        "aa", "bb", "cc", "dd", "ee", "ff", "gg", "hh", "ii", "jj", "kk", "ll", "mm", "nn", "oo", "pp", "qq", "rr", "ss"};
    private static final String[] JUNK = {"state", "final", "turn", "odd", "rule", "to", "book", "from", "misses", "finale",
        "hint", "at", "is", "by", "reader", "offer", "costs", "tells", "watch", "guards", "follows", "bind", "loose",
        "call", "guess", "when", "done", "left", "loop", "end", "stop", ";", "<", ">", "=", "0", "1", "6", "7", "10", "99",
        "100", "0001", "9999", "10000", "00000", "abcdefghi", "abcdefgh", "A", "-", "\t", "\u00e9", "\u0000", ":", "?",
        "a", "b", "c", "d", "e", "f", "g"};

    private final Random random;
    private final LastPages mine = new LastPages();
    private final Model model = new Model();
    private final StringBuilder story = new StringBuilder();
    private boolean differs = false;
    /** Whether the shelf at hand shall have as many of all things as there may be, as far as the text goes. */
    private boolean isFull = false;

    private ModelTest(long seed) {
        random = new Random(seed);
        story.append("seed ").append(seed).append('\n');
    }

    public static void main(String[] args) throws Exception {
        for (Method m : LastPages.class.getDeclaredMethods()) {
            if (java.lang.reflect.Modifier.isPublic(m.getModifiers())) {
                CALLS.add(m);
            }
        }
        CALLS.sort((a, b) -> a.getName().compareTo(b.getName()));
        int runs = args.length > 0 ? Integer.parseInt(args[0]) : 1500;
        long from = args.length > 1 ? Long.parseLong(args[1]) : 1;
        int bad = 0;
        for (int i = 0; i < runs && bad < 3; i++) {
            ModelTest test = new ModelTest(from + i);
            test.run();
            if (test.differs) {
                bad++;
                System.out.println(test.story);
            }
        }
        Checks.due("runs that differ from the model", bad, 0);
        Checks.end();
    }

    private void run() throws Exception {
        int texts = 0;
        for (int i = 0; i < 200 && !differs; i++) {
            int dice = random.nextInt(100);
            if (texts == 0 || dice < 1 || model.shelf.books.isEmpty() && random.nextInt(4) == 0) {
                shelfText();
                texts++;
            } else if (dice < 7) {
                weeksText();
            } else {
                ask(CALLS.get(random.nextInt(CALLS.size())));
            }
        }
    }

    /** What the numbers of a call are, so that most of them can be such that there is. */
    private static final String KINDS = "tray:tray,sort,length write:tray,place read:tray,place pour:tray,place,tray,place,place "
        + "shelf:short weeks:short fault:bit many:many rule:state,turn odd:turn book:book,six page:book,place "
        + "finale:finale,missing hint:hint,six offer:offer,bit watch:watch,bit copyFinale:finale,tray bind:book,finale "
        + "loose:book call:reader strange:turn,ten close:state lead:state,turn,state endings:book best:book "
        + "bestAt:book,missing next:book chance:book,missing,turn may:book,missing isEnding:book,tray,missing "
        + "fits:book,finale finalesOf:book booksOf:finale oddness:finale liars:book liarSet:book known:offers buy:much "
        + "buySet:much guard:guards guardSet:guards live:seed lived:six mean:seed,seeds ";

    private void ask(Method m) throws Exception {
        boolean isRare = List.of("shelf", "weeks", "feed").contains(m.getName());
        if (isRare && random.nextInt(30) != 0 || random.nextInt(3) != 0 && List.of("status", "top", "bottom").contains(m.getName())) {
            return;
        }
        Class<?>[] types = m.getParameterTypes();
        Object[] values = new Object[types.length];
        for (int i = 0; i < types.length; i++) {
            values[i] = types[i] == boolean.class ? (Object) random.nextBoolean()
                : types[i] == long.class ? (Object) (random.nextBoolean() ? random.nextLong() : (long) random.nextInt(5))
                : (Object) number(m.getName(), i);
        }
        compare(m, values);
    }

    private int number(String name, int i) {
        int dice = random.nextInt(80);
        if (dice == 0) {
            return new int[] {Integer.MIN_VALUE, Integer.MAX_VALUE, -1, -2, 64, 300, 301, 32, 31, 33}[random.nextInt(10)];
        }
        if (dice < 3) {
            return random.nextInt(12) - 1;
        }
        int at = KINDS.indexOf(name + ":");
        if (at < 0) {
            return random.nextInt();
        }
        String kind = KINDS.substring(at + name.length() + 1, KINDS.indexOf(' ', at)).split(",")[i];
        Model.Shelf shelf = model.shelf;
        switch (kind) {
            case "tray": return random.nextInt(4);
            case "sort": return random.nextInt(3) == 0 ? random.nextInt(4) : 1;
            case "length": return random.nextInt(9) == 0 ? random.nextInt(63) - 1 : 2 + random.nextInt(7);
            case "place": return random.nextInt(6);
            case "short": return random.nextInt(22) - 1;
            case "bit": return random.nextInt(3);
            case "many": return random.nextInt(12);
            case "six": return random.nextInt(6);
            case "ten": return random.nextInt(10);
            case "state": return within(shelf.states.size());
            case "turn": return within(shelf.turns.size());
            case "book": return within(shelf.books.size());
            case "finale": return within(shelf.finales.size());
            case "reader": return within(shelf.readers.size());
            case "hint": return within(shelf.hints.size());
            case "offer": return within(shelf.offers.size());
            case "watch": return within(shelf.watches.size());
            case "missing": return 1 + random.nextInt(3);
            case "offers": return random.nextInt((1 << shelf.offers.size()) + 1);
            case "much": return random.nextInt(9) == 0 ? 990 + random.nextInt(12) : random.nextInt(40) - 1;
            case "guards": return 1 + random.nextInt(3);
            case "seed": return random.nextInt(9) == 0 ? 9975 + random.nextInt(30) : random.nextInt(10000);
            case "seeds": return random.nextInt(22);
            default: throw new IllegalStateException(kind);
        }
    }

    private int within(int many) {
        return random.nextInt(12) == 0 ? random.nextInt(many + 2) - 1 : many == 0 ? 0 : random.nextInt(many);
    }

    private void compare(Method m, Object... values) throws Exception {
        Object got = m.invoke(mine, values);
        Object want = Model.class.getMethod(m.getName(), m.getParameterTypes()).invoke(model, values);
        story.append(m.getName()).append(Arrays.toString(values)).append(" = ").append(got).append(" status ")
            .append(mine.status()).append('\n');
        differs = !got.equals(want) || mine.status() != model.status() || mine.top() != model.top()
            || mine.bottom() != model.bottom() || mine.fault(0) != model.fault(0) || mine.fault(1) != model.fault(1);
        if (differs) {
            story.append("due: ").append(want).append(" status ").append(model.status()).append(" fraction ")
                .append(model.top()).append('/').append(model.bottom()).append(" fault ").append(model.fault(0))
                .append(" at ").append(model.fault(1)).append("; fault is ").append(mine.fault(0)).append(" at ")
                .append(mine.fault(1)).append('\n');
        }
    }

    private Method call(String name, Class<?>... types) throws Exception {
        return LastPages.class.getMethod(name, types);
    }

    private void give(String name, String text) throws Exception {
        story.append(name).append(" \"").append(text).append("\"\n");
        byte[] b = Checks.bytes(text);
        for (int i = 0; i < b.length && !differs; i += 20) {
            Method feed = call("feed", int.class, int.class, int.class, int.class, int.class);
            compare(feed, Checks.four(b, i), Checks.four(b, i + 4), Checks.four(b, i + 8), Checks.four(b, i + 12),
                Checks.four(b, i + 16));
        }
        if (!differs) {
            compare(call(name, int.class), text.length());
        }
    }

    /** A fed rest is cleared first, so that the text stands at the tape's beginning. */
    private void clearTape() throws Exception {
        if (!model.tape.isEmpty()) {
            compare(call("weeks", int.class), 0);
        }
    }

    // ---- texts

    private final List<String> states = new ArrayList<>();
    private final List<String> turns = new ArrayList<>();
    private final List<String> books = new ArrayList<>();
    private final List<Integer> misses = new ArrayList<>();
    private final List<String> finales = new ArrayList<>();
    private final List<String> readers = new ArrayList<>();

    private String one(List<String> list) {
        return list.isEmpty() || random.nextInt(400) == 0 ? NAMES[random.nextInt(NAMES.length)]
            : list.get(random.nextInt(list.size()));
    }

    private String fresh(List<String> pool) {
        return pool.isEmpty() || random.nextInt(500) == 0 ? NAMES[random.nextInt(NAMES.length)]
            : pool.remove(random.nextInt(pool.size()));
    }

    private String some(List<String> list, int least, int most) {
        StringBuilder b = new StringBuilder();
        int n = least + random.nextInt(most - least + 1);
        for (int i = 0; i < n; i++) {
            b.append(' ').append(one(list));
        }
        return b.toString();
    }

    private void shelfText() throws Exception {
        clearTape();
        isFull = random.nextInt(8) == 0;
        for (List<?> l : List.of(states, turns, books, misses, finales, readers)) {
            l.clear();
        }
        List<String> pool = new ArrayList<>(Arrays.asList(NAMES));
        java.util.Collections.shuffle(pool, random);
        List<String> parts = new ArrayList<>();
        int nStates = size(4, 9);
        for (int i = 0; i < nStates; i++) {
            String n = fresh(pool);
            parts.add("state " + n + (random.nextInt(3) != 0 ? " final" : ""));
            states.add(n);
        }
        int nTurns = size(4, 9);
        for (int i = 0; i < nTurns; i++) {
            String n = fresh(pool);
            parts.add("turn " + n + (random.nextBoolean() ? " odd " + random.nextInt(10) : ""));
            turns.add(n);
        }
        int[][] leads = new int[nStates + 1][nTurns + 1];
        int dense = 1 + random.nextInt(isFull ? 2 : 5);
        int rules = isFull ? 16 + random.nextInt(20) : 36;
        for (int i = 0; i < nStates; i++) {
            for (int j = 0; j < nTurns; j++) {
                leads[i][j] = random.nextInt(6) < dense && parts.size() < rules ? random.nextInt(nStates) : -1;
                if (leads[i][j] >= 0) {
                    parts.add("rule " + states.get(i) + " " + turns.get(j) + " to " + states.get(leads[i][j]));
                }
            }
        }
        if (random.nextInt(9) == 0) {
            parts.add("rule " + one(states) + " " + one(turns) + " to " + one(states));
        }
        int nBooks = size(5, 7);
        int[] places = new int[nBooks + 1];
        for (int i = 0; i < nBooks; i++) {
            String n = fresh(pool);
            int m = random.nextInt(12) == 0 ? 1 + random.nextInt(6) : 1 + random.nextInt(3);
            places[i] = nStates == 0 ? -1 : random.nextInt(nStates);
            StringBuilder part = new StringBuilder("book " + n + " from " + (nStates == 0 ? "a" : states.get(places[i])) + " misses " + m);
            int pages = isFull ? random.nextInt(2) : random.nextInt(40) == 0 ? 11 : random.nextInt(9) == 0 ? 10 : random.nextInt(4);
            for (int j = 0; j < pages && nTurns > 0; j++) {
                int t = random.nextInt(nTurns);
                for (int k = 0; k < 9 && (places[i] < 0 || leads[places[i]][t] < 0); k++) {
                    t = random.nextInt(nTurns);
                }
                places[i] = places[i] < 0 ? -1 : leads[places[i]][t];
                part.append(' ').append(turns.get(t));
            }
            parts.add(part.toString());
            books.add(n);
            misses.add(m);
        }
        int nFinales = size(6, 9);
        for (int i = 0; i < nFinales; i++) {
            String n = fresh(pool);
            if (nBooks == 0 || nTurns == 0 || random.nextInt(8) == 0) {
                parts.add("finale " + n + some(turns, random.nextInt(60) == 0 ? 0 : 1, random.nextInt(30) == 0 ? 7 : 3));
            } else {
                int b = random.nextInt(nBooks);
                int place = places[b];
                StringBuilder part = new StringBuilder("finale " + n);
                for (int j = 0; j < misses.get(b); j++) {
                    int t = random.nextInt(nTurns);
                    for (int k = 0; k < 9 && (place < 0 || leads[place][t] < 0); k++) {
                        t = random.nextInt(nTurns);
                    }
                    place = place < 0 ? -1 : leads[place][t];
                    part.append(' ').append(turns.get(t));
                }
                parts.add(part.toString());
            }
            finales.add(n);
        }
        moreParts(pool, parts);
        if (random.nextInt(9) == 0 && !parts.isEmpty()) {
            java.util.Collections.swap(parts, random.nextInt(parts.size()), random.nextInt(parts.size()));
        }
        StringBuilder text = new StringBuilder();
        for (String part : parts) {
            if (isFull && text.length() + part.length() >= 900) {
                break;
            }
            text.append(part).append(random.nextInt(9) == 0 && !isFull ? " ;\n" : ";");
        }
        String whole = spoilt(text.toString());
        give("shelf", whole.length() > 900 ? whole.substring(0, 900) : whole);
    }

    private void moreParts(List<String> pool, List<String> parts) {
        int nReaders = size(2, 7);
        for (int i = 0; i < nReaders; i++) {
            String n = fresh(pool);
            parts.add("reader " + n);
            readers.add(n);
        }
        int hints = books.isEmpty() ? 0 : random.nextInt(20) == 0 ? 13 : random.nextInt(5);
        for (int i = 0; i < hints; i++) {
            int b = random.nextInt(books.size());
            int place = random.nextInt(30) == 0 ? random.nextInt(8) : 1 + random.nextInt(misses.get(b));
            parts.add("hint " + books.get(b) + " at " + place + " is " + one(turns) + " by " + one(readers));
        }
        int offers = size(2, 7);
        for (int i = 0; i < offers; i++) {
            parts.add("offer " + fresh(pool) + " costs " + random.nextInt(random.nextInt(20) == 0 ? 101 : 9) + " tells"
                + some(books, 0, 3));
        }
        int watches = size(3, 9);
        for (int i = 0; i < watches; i++) {
            parts.add("watch " + fresh(pool) + " costs " + random.nextInt(random.nextInt(20) == 0 ? 101 : 9) + " guards"
                + some(books, 0, 4));
        }
        int follows = random.nextInt(4);
        for (int i = 0; i < follows && books.size() > 1; i++) {
            int a = random.nextInt(books.size());
            int b = random.nextInt(20) == 0 ? a : (a + 1 + random.nextInt(books.size() - 1)) % books.size();
            parts.add("follows " + books.get(a) + " " + books.get(b));
        }
    }

    /** One more than there may be, now and then. */
    private int size(int usual, int most) {
        if (isFull) {
            return most - 1;
        }
        return random.nextInt(40) == 0 ? random.nextInt(most + 1) : 1 + random.nextInt(usual);
    }

    private String spoilt(String text) {
        if (random.nextInt(5) != 0 || text.isEmpty()) {
            return text;
        }
        int at = random.nextInt(text.length());
        String junk = JUNK[random.nextInt(JUNK.length)];
        switch (random.nextInt(5)) {
            case 0:
                return text.substring(0, at) + junk + text.substring(at);
            case 1:
                return text.substring(0, at) + " " + junk + " " + text.substring(at);
            case 2:
                return text.substring(0, at);
            case 3:
                return text.substring(0, at) + text.substring(at + 1);
            default:
                int end = text.indexOf(' ', at);
                return text.substring(0, at) + junk + (end < 0 ? "" : text.substring(end));
        }
    }

    private void weeksText() throws Exception {
        clearTape();
        StringBuilder text = new StringBuilder();
        steps(text, 0, 1 + random.nextInt(8));
        String whole = spoilt(text.toString());
        give("weeks", whole.length() > 300 && random.nextInt(9) != 0 ? whole.substring(0, 300) : whole);
    }

    private void steps(StringBuilder text, int depth, int many) {
        for (int i = 0; i < many; i++) {
            int dice = random.nextInt(20);
            if (dice < 4) {
                text.append("bind ").append(one(books)).append(' ').append(one(finales)).append(';');
            } else if (dice < 6) {
                text.append("loose ").append(one(books)).append(';');
            } else if (dice < 8) {
                text.append("call ").append(one(readers)).append(';');
            } else if (dice < 12) {
                text.append("guess ").append(one(books)).append(';');
            } else if (dice < 13) {
                text.append(random.nextInt(4) == 0 ? "stop;" : "");
            } else if (depth > 2 && random.nextInt(9) != 0) {
                continue;
            } else if (dice < 16) {
                text.append("loop ").append(random.nextInt(3) == 0 ? random.nextInt(101) : 1 + random.nextInt(9)).append(';');
                steps(text, depth + 1, random.nextInt(4));
                text.append("end;");
            } else {
                text.append("when ").append(test()).append(';');
                steps(text, depth + 1, random.nextInt(4));
                text.append("end;");
            }
        }
    }

    private String test() {
        char sign = "<>=".charAt(random.nextInt(3));
        switch (random.nextInt(3)) {
            case 0:
                return "done " + one(books);
            case 1:
                return "left " + sign + random.nextInt(random.nextInt(9) == 0 ? 12 : 5);
            default:
                return "odd " + one(books) + sign + random.nextInt(random.nextInt(9) == 0 ? 102 : 20);
        }
    }
}
