import java.util.ArrayDeque;
import java.util.ArrayList;
import java.util.Arrays;
import java.util.HashSet;
import java.util.LinkedHashMap;
import java.util.List;
import java.util.Map;
import java.util.Set;
import java.util.TreeMap;

/**
 * The document once more, as slowly and plainly as can be: every ending is tried, every set is gone through, texts are
 * cut into tokens first and read by recursion. ModelTest holds LastPages against it.
 */
public final class Model {
    static final class Fault extends RuntimeException {
        final int kind;
        final int place;

        Fault(int kind, int place) {
            super(null, null, false, false);
            this.kind = kind;
            this.place = place;
        }
    }

    static final class Stop extends RuntimeException {
        final boolean cut;

        Stop(boolean cut) {
            super(null, null, false, false);
            this.cut = cut;
        }
    }

    record Token(char kind, String text, int place) { }

    record Thing(String kind, int number) { }

    record Book(int from, int misses, List<Integer> pages) { }

    record Hint(int book, int place, int turn, int reader) { }

    record Priced(int cost, Set<Integer> books) { }

    record Step(String word, String test, int thing, char sign, int number, List<Step> steps) { }

    static final class Shelf {
        Map<String, Thing> names = new LinkedHashMap<>();
        List<Boolean> states = new ArrayList<>();
        List<Integer> turns = new ArrayList<>();
        Map<List<Integer>, Integer> rules = new TreeMap<>((a, b) -> a.toString().compareTo(b.toString()));
        List<Book> books = new ArrayList<>();
        List<List<Integer>> finales = new ArrayList<>();
        List<Boolean> readers = new ArrayList<>();
        List<Hint> hints = new ArrayList<>();
        List<Priced> offers = new ArrayList<>();
        List<Priced> watches = new ArrayList<>();
        List<List<Integer>> follows = new ArrayList<>();
        Map<Integer, Integer> bound = new TreeMap<>();
        List<Step> weeks = null;

        Shelf copy() {
            Shelf c = new Shelf();
            c.names.putAll(names);
            c.states.addAll(states);
            c.turns.addAll(turns);
            c.rules.putAll(rules);
            c.books.addAll(books);
            c.finales.addAll(finales);
            c.readers.addAll(readers);
            c.hints.addAll(hints);
            c.offers.addAll(offers);
            c.watches.addAll(watches);
            c.follows.addAll(follows);
            c.bound.putAll(bound);
            c.weeks = weeks;
            return c;
        }
    }

    static final Set<String> RESERVED = new HashSet<>(Arrays.asList("state", "final", "turn", "odd", "rule", "to", "book",
        "from", "misses", "finale", "hint", "at", "is", "by", "reader", "offer", "costs", "tells", "watch", "guards",
        "follows", "bind", "loose", "call", "guess", "when", "done", "left", "loop", "end", "stop"));

    int status = 0;
    long top = 0;
    long bottom = 1;
    long[][] trays = new long[4][];
    int[] sorts = new int[4];
    List<Integer> tape = new ArrayList<>();
    Shelf shelf = new Shelf();
    ArrayDeque<Shelf> marks = new ArrayDeque<>();
    int[] fault = {-1, -1};
    int[] lived = null;

    // ---- answers

    private int no(int why) {
        status = why;
        return -1;
    }

    private boolean not(int why) {
        status = why;
        return false;
    }

    private int yes(int answer) {
        status = 0;
        return answer;
    }

    private boolean done() {
        status = 0;
        return true;
    }

    public int status() {
        return status;
    }

    public long top() {
        return top;
    }

    public long bottom() {
        return bottom;
    }

    // ---- trays

    private boolean noTray(int tray) {
        return tray < 0 || tray > 3;
    }

    public boolean tray(int tray, int sort, int many) {
        if (noTray(tray) || sort < 0 || sort > 3) return not(1);
        if (many > 60) return not(5);
        if (many < 0) return not(6);
        trays[tray] = new long[many];
        sorts[tray] = sort;
        return done();
    }

    private int whyNot(int tray, int place) {
        if (noTray(tray)) return 1;
        if (trays[tray] == null) return 3;
        if (place < 0 || place >= trays[tray].length) return 4;
        return 0;
    }

    public boolean write(int tray, int place, long v) {
        int why = whyNot(tray, place);
        if (why != 0) return not(why);
        int bits = 8 << sorts[tray];
        trays[tray][place] = v << 64 - bits >> 64 - bits;
        return done();
    }

    public long read(int tray, int place) {
        int why = whyNot(tray, place);
        if (why != 0) return no(why);
        status = 0;
        return trays[tray][place];
    }

    public boolean pour(int tray, int i, int to, int j, int many) {
        if (noTray(tray) || noTray(to)) return not(1);
        if (trays[tray] == null || trays[to] == null) return not(3);
        if (sorts[tray] != sorts[to]) return not(11);
        if (many < 0) return not(6);
        if (i < 0 || j < 0 || (long) i + many > trays[tray].length || (long) j + many > trays[to].length) return not(4);
        long[] as = trays[tray].clone();
        for (int k = 0; k < many; k++) trays[to][j + k] = as[i + k];
        return done();
    }

    // ---- texts

    public int feed(int a, int b, int c, int d, int e) {
        if (tape.size() > 880) return -1;
        for (int v : new int[] {a, b, c, d, e}) {
            tape.add(v >>> 24);
            tape.add(v >>> 16 & 255);
            tape.add(v >>> 8 & 255);
            tape.add(v & 255);
        }
        return tape.size();
    }

    private String takeTape(int n) {
        StringBuilder text = new StringBuilder();
        for (int i = 0; i < n; i++) text.append((char) (int) tape.get(i));
        tape.clear();
        return text.toString();
    }

    public int shelf(int n) {
        if (n < 0 || n > tape.size()) return no(5);
        try {
            shelf = new Reader(takeTape(n), new Shelf()).readShelf();
        } catch (Fault f) {
            fault = new int[] {f.kind, f.place};
            return no(10);
        }
        fault = new int[] {0, -1};
        return yes(shelf.books.size());
    }

    public int weeks(int n) {
        if (n < 0 || n > tape.size() || n > 300) return no(5);
        Reader reader = new Reader(takeTape(n), shelf);
        try {
            shelf.weeks = reader.readWeeks();
        } catch (Fault f) {
            fault = new int[] {f.kind, f.place};
            return no(10);
        }
        fault = new int[] {0, -1};
        return yes(reader.steps);
    }

    public int fault(int what) {
        return what == 0 ? fault[0] : what == 1 ? fault[1] : -1;
    }

    /** Cuts a text into tokens and reads them; a fault of kind 1 is a token of kind '?'. */
    static final class Reader {
        final List<Token> tokens = new ArrayList<>();
        final Shelf shelf;
        int next = 0;
        int steps = 0;

        Reader(String text, Shelf shelf) {
            this.shelf = shelf;
            java.util.regex.Matcher m =
                java.util.regex.Pattern.compile("[a-z]+|[0-9]+|[;<>=]|[\\n ]+|(?s:.)").matcher(text);
            while (m.find()) {
                String t = m.group();
                char c = t.charAt(0);
                if (c == ' ' || c == '\n') continue;
                char kind = c >= 'a' && c <= 'z' ? 'w' : c >= '0' && c <= '9' && t.length() <= 4 ? 'n'
                    : ";<>=".indexOf(c) >= 0 ? c : '?';
                tokens.add(new Token(kind, t, m.start()));
            }
            tokens.add(new Token('.', "", text.length()));
        }

        Token see() {
            Token t = tokens.get(next);
            if (t.kind == '?') throw new Fault(1, t.place);
            return t;
        }

        Token take() {
            Token t = see();
            next++;
            return t;
        }

        boolean sees(String word) {
            return see().text.equals(word);
        }

        void want(String word) {
            Token t = take();
            if (!t.text.equals(word)) throw new Fault(2, t.place);
        }

        int number(int least, int most) {
            Token t = take();
            if (t.kind != 'n') throw new Fault(2, t.place);
            int v = Integer.parseInt(t.text);
            if (v < least || v > most) throw new Fault(4, t.place);
            return v;
        }

        Token name() {
            Token t = take();
            if (t.kind != 'w' || t.text.length() > 8 || RESERVED.contains(t.text)) throw new Fault(2, t.place);
            return t;
        }

        void fresh(String kind, int number) {
            Token t = name();
            if (shelf.names.containsKey(t.text)) throw new Fault(3, t.place);
            shelf.names.put(t.text, new Thing(kind, number));
        }

        int old(String kind) {
            Token t = name();
            Thing thing = shelf.names.get(t.text);
            if (thing == null || !thing.kind.equals(kind)) throw new Fault(3, t.place);
            return thing.number;
        }

        void limit(Token t, List<?> list, int most) {
            if (list.size() == most) throw new Fault(6, t.place);
        }

        List<Integer> turns(int most) {
            List<Integer> list = new ArrayList<>();
            while (!sees(";")) {
                Token t = see();
                list.add(old("turn"));
                if (list.size() > most) throw new Fault(6, t.place);
            }
            return list;
        }

        Set<Integer> books() {
            Set<Integer> set = new HashSet<>();
            while (!sees(";")) set.add(old("book"));
            return set;
        }

        Shelf readShelf() {
            while (see().kind != '.') {
                part();
                want(";");
            }
            return shelf;
        }

        void part() {
            Token t = take();
            switch (t.text) {
                case "state" -> {
                    limit(t, shelf.states, 8);
                    fresh("state", shelf.states.size());
                    boolean is = sees("final");
                    if (is) take();
                    shelf.states.add(is);
                }
                case "turn" -> {
                    limit(t, shelf.turns, 8);
                    fresh("turn", shelf.turns.size());
                    int odd = 1;
                    if (sees("odd")) {
                        take();
                        odd = number(0, 9);
                    }
                    shelf.turns.add(odd);
                }
                case "rule" -> {
                    int state = old("state");
                    int turn = old("turn");
                    want("to");
                    shelf.rules.put(List.of(state, turn), old("state"));
                }
                case "book" -> {
                    limit(t, shelf.books, 6);
                    fresh("book", shelf.books.size());
                    want("from");
                    int from = old("state");
                    want("misses");
                    int misses = number(1, 6);
                    shelf.books.add(new Book(from, misses, turns(10)));
                }
                case "finale" -> {
                    limit(t, shelf.finales, 8);
                    fresh("finale", shelf.finales.size());
                    if (sees(";")) throw new Fault(2, see().place);
                    shelf.finales.add(turns(6));
                }
                case "hint" -> {
                    limit(t, shelf.hints, 12);
                    int book = old("book");
                    want("at");
                    int place = number(1, shelf.books.get(book).misses);
                    want("is");
                    int turn = old("turn");
                    want("by");
                    shelf.hints.add(new Hint(book, place, turn, old("reader")));
                }
                case "reader" -> {
                    limit(t, shelf.readers, 6);
                    fresh("reader", shelf.readers.size());
                    shelf.readers.add(false);
                }
                case "offer" -> priced(t, shelf.offers, 6, "tells");
                case "watch" -> priced(t, shelf.watches, 8, "guards");
                case "follows" -> {
                    int first = old("book");
                    Token at = see();
                    int second = old("book");
                    if (first == second) throw new Fault(5, at.place);
                    shelf.follows.add(List.of(first, second));
                }
                default -> throw new Fault(2, t.place);
            }
        }

        void priced(Token t, List<Priced> list, int most, String verb) {
            limit(t, list, most);
            fresh(t.text, list.size());
            want("costs");
            int cost = number(0, 99);
            want(verb);
            list.add(new Priced(cost, books()));
        }

        List<Step> readWeeks() {
            List<Step> list = steps(0);
            if (see().kind != '.') throw new Fault(2, see().place);
            return list;
        }

        List<Step> steps(int depth) {
            List<Step> list = new ArrayList<>();
            while (see().kind != '.' && !sees("end")) list.add(step(depth));
            return list;
        }

        List<Step> body(int depth) {
            want(";");
            List<Step> list = steps(depth + 1);
            want("end");
            return list;
        }

        Step step(int depth) {
            Token t = take();
            if (!Set.of("bind", "loose", "call", "guess", "when", "loop", "stop").contains(t.text)) {
                throw new Fault(2, t.place);
            }
            steps++;
            if (steps > 30) throw new Fault(6, t.place);
            if (depth == 3 && Set.of("when", "loop").contains(t.text)) throw new Fault(7, t.place);
            Step step = switch (t.text) {
                case "bind" -> new Step(t.text, "", old("book"), ' ', old("finale"), null);
                case "loose", "guess" -> new Step(t.text, "", old("book"), ' ', 0, null);
                case "call" -> new Step(t.text, "", old("reader"), ' ', 0, null);
                case "loop" -> new Step(t.text, "", 0, ' ', number(1, 99), body(depth));
                case "when" -> when(depth);
                default -> new Step("stop", "", 0, ' ', 0, null);
            };
            want(";");
            return step;
        }

        Step when(int depth) {
            Token t = take();
            switch (t.text) {
                case "done":
                    return new Step("when", "done", old("book"), ' ', 0, body(depth));
                case "left":
                    return new Step("when", "left", 0, sign(), number(0, 9), body(depth));
                case "odd":
                    return new Step("when", "odd", old("book"), sign(), number(0, 99), body(depth));
                default:
                    throw new Fault(2, t.place);
            }
        }

        char sign() {
            Token t = take();
            if ("<>=".indexOf(t.kind) < 0) throw new Fault(2, t.place);
            return t.kind;
        }
    }

    // ---- what is there

    private boolean noState(int i) {
        return i < 0 || i >= shelf.states.size();
    }

    private boolean noTurn(int i) {
        return i < 0 || i >= shelf.turns.size();
    }

    private boolean noBook(int i) {
        return i < 0 || i >= shelf.books.size();
    }

    private boolean noFinale(int i) {
        return i < 0 || i >= shelf.finales.size();
    }

    private boolean noReader(int i) {
        return i < 0 || i >= shelf.readers.size();
    }

    private static int setOf(Iterable<Integer> list) {
        int set = 0;
        for (int i : list) set |= 1 << i;
        return set;
    }

    public int many(int what) {
        switch (what) {
            case 0: return yes(shelf.states.size());
            case 1: return yes(shelf.turns.size());
            case 2: return yes(shelf.books.size());
            case 3: return yes(shelf.finales.size());
            case 4: return yes(shelf.readers.size());
            case 5: return yes(shelf.hints.size());
            case 6: return yes(shelf.offers.size());
            case 7: return yes(shelf.watches.size());
            case 8: return yes(shelf.rules.size());
            case 9: return yes(trueOnes(shelf.states));
            case 10: return yes(setOf(shelf.bound.keySet()));
            case 11: return yes(trueOnes(shelf.readers));
            default: return no(5);
        }
    }

    private static int trueOnes(List<Boolean> list) {
        int set = 0;
        for (int i = 0; i < list.size(); i++) if (list.get(i)) set |= 1 << i;
        return set;
    }

    public int rule(int state, int turn) {
        if (noState(state) || noTurn(turn)) return no(2);
        Integer to = shelf.rules.get(List.of(state, turn));
        return to == null ? no(8) : yes(to);
    }

    public int odd(int turn) {
        return noTurn(turn) ? no(2) : yes(shelf.turns.get(turn));
    }

    /** The states along some turns; as long as they are led on. */
    private List<Integer> walk(int from, List<Integer> turns) {
        List<Integer> states = new ArrayList<>(List.of(from));
        for (int turn : turns) {
            Integer to = shelf.rules.get(List.of(states.get(states.size() - 1), turn));
            if (to == null) break;
            states.add(to);
        }
        return states;
    }

    public int book(int book, int what) {
        if (noBook(book)) return no(2);
        if (what < 0 || what > 5) return no(5);
        Book b = shelf.books.get(book);
        List<Integer> walked = walk(b.from, b.pages);
        boolean breaks = walked.size() <= b.pages.size();
        if (what == 0) return yes(b.from);
        if (what == 1) return yes(b.pages.size());
        if (what == 2) return yes(b.misses);
        if (what == 3) return breaks ? no(8) : yes(walked.get(b.pages.size()));
        if (what == 4) return breaks ? yes(walked.size() - 1) : no(8);
        return shelf.bound.containsKey(book) ? yes(shelf.bound.get(book)) : no(8);
    }

    public int page(int book, int page) {
        if (noBook(book)) return no(2);
        List<Integer> pages = shelf.books.get(book).pages;
        return page < 0 || page >= pages.size() ? no(8) : yes(pages.get(page));
    }

    public int finale(int finale, int place) {
        if (noFinale(finale)) return no(2);
        List<Integer> turns = shelf.finales.get(finale);
        return place < 1 || place > turns.size() ? no(8) : yes(turns.get(place - 1));
    }

    public int hint(int hint, int what) {
        if (hint < 0 || hint >= shelf.hints.size() || what < 0 || what > 3) return no(5);
        Hint h = shelf.hints.get(hint);
        return yes(new int[] {h.book, h.place, h.turn, h.reader}[what]);
    }

    private int part(List<Priced> list, int i, int what) {
        if (i < 0 || i >= list.size()) return no(2);
        if (what < 0 || what > 1) return no(5);
        return yes(what == 0 ? list.get(i).cost : setOf(list.get(i).books));
    }

    public int offer(int offer, int what) {
        return part(shelf.offers, offer, what);
    }

    public int watch(int watch, int what) {
        return part(shelf.watches, watch, what);
    }

    public int copyFinale(int finale, int tray) {
        if (noTray(tray)) return no(1);
        if (noFinale(finale)) return no(2);
        if (trays[tray] == null) return no(3);
        List<Integer> turns = shelf.finales.get(finale);
        if (turns.size() > trays[tray].length) return no(4);
        for (int i = 0; i < turns.size(); i++) trays[tray][i] = turns.get(i);
        return yes(turns.size());
    }

    // ---- what is done

    private boolean canBind(int book, int finale) {
        return !shelf.bound.containsKey(book) && !shelf.bound.containsValue(finale)
            && isOne(book, shelf.finales.get(finale), believed());
    }

    public boolean bind(int book, int finale) {
        if (noBook(book) || noFinale(finale)) return not(2);
        if (!canBind(book, finale)) return not(9);
        shelf.bound.put(book, finale);
        return done();
    }

    public int loose(int book) {
        if (noBook(book)) return no(2);
        Integer had = shelf.bound.remove(book);
        return had == null ? no(8) : yes(had);
    }

    public boolean call(int reader, boolean liar) {
        if (noReader(reader)) return not(2);
        if (shelf.readers.get(reader) == liar) return not(9);
        shelf.readers.set(reader, liar);
        return done();
    }

    public boolean strange(int turn, int odd) {
        if (noTurn(turn)) return not(2);
        if (odd < 0 || odd > 9) return not(5);
        shelf.turns.set(turn, odd);
        return done();
    }

    public boolean close(int state, boolean is) {
        if (noState(state)) return not(2);
        if (shelf.states.get(state) == is) return not(9);
        shelf.states.set(state, is);
        return done();
    }

    public boolean lead(int state, int turn, int to) {
        if (noState(state) || noTurn(turn) || to != -1 && noState(to)) return not(2);
        if (to == -1) shelf.rules.remove(List.of(state, turn));
        else shelf.rules.put(List.of(state, turn), to);
        return done();
    }

    // ---- endings

    private Set<Integer> believed() {
        Set<Integer> set = new HashSet<>();
        for (int i = 0; i < shelf.readers.size(); i++) if (!shelf.readers.get(i)) set.add(i);
        return set;
    }

    private boolean isOne(int book, List<Integer> turns, Set<Integer> heard) {
        Book b = shelf.books.get(book);
        if (turns.size() != b.misses) return false;
        for (Hint h : shelf.hints) {
            if (h.book == book && heard.contains(h.reader) && turns.get(h.place - 1) != h.turn) return false;
        }
        List<Integer> all = new ArrayList<>(b.pages);
        all.addAll(turns);
        List<Integer> walked = walk(b.from, all);
        return walked.size() == all.size() + 1 && shelf.states.get(walked.get(all.size()));
    }

    /** By turns, the first ahead: all rows of turns are tried, but those that no rule leads along are left early. */
    private List<List<Integer>> all(int book, Set<Integer> heard) {
        List<List<Integer>> found = new ArrayList<>();
        Book b = shelf.books.get(book);
        List<Integer> walked = walk(b.from, b.pages);
        if (walked.size() == b.pages.size() + 1) grow(book, walked.get(b.pages.size()), new ArrayList<>(), heard, found);
        return found;
    }

    private void grow(int book, int state, List<Integer> turns, Set<Integer> heard, List<List<Integer>> found) {
        if (turns.size() == shelf.books.get(book).misses) {
            if (isOne(book, turns, heard)) found.add(new ArrayList<>(turns));
            return;
        }
        for (int t = 0; t < shelf.turns.size(); t++) {
            Integer to = shelf.rules.get(List.of(state, t));
            if (to == null) continue;
            turns.add(t);
            grow(book, to, turns, heard, found);
            turns.remove(turns.size() - 1);
        }
    }

    public long endings(int book) {
        if (noBook(book)) return no(2);
        status = 0;
        return all(book, believed()).size();
    }

    public int hopeless() {
        int set = 0;
        for (int b = 0; b < shelf.books.size(); b++) if (all(b, believed()).isEmpty()) set |= 1 << b;
        return yes(set);
    }

    private int oddOf(List<Integer> turns) {
        return turns.stream().mapToInt(t -> shelf.turns.get(t)).sum();
    }

    private List<Integer> bestOf(int book) {
        List<Integer> best = null;
        for (List<Integer> one : all(book, believed())) if (best == null || oddOf(one) < oddOf(best)) best = one;
        return best;
    }

    public int best(int book) {
        if (noBook(book)) return no(2);
        List<Integer> best = bestOf(book);
        return best == null ? no(8) : yes(oddOf(best));
    }

    public int bestAt(int book, int place) {
        if (noBook(book)) return no(2);
        if (place < 1 || place > shelf.books.get(book).misses) return no(5);
        List<Integer> best = bestOf(book);
        return best == null ? no(8) : yes(best.get(place - 1));
    }

    private static int withTurn(List<List<Integer>> list, int place, int turn) {
        int n = 0;
        for (List<Integer> one : list) if (one.get(place - 1) == turn) n++;
        return n;
    }

    public int next(int book) {
        if (noBook(book)) return no(2);
        List<List<Integer>> list = all(book, believed());
        if (list.size() < 2) return no(8);
        int best = 0;
        int least = Integer.MAX_VALUE;
        for (int p = 1; p <= shelf.books.get(book).misses; p++) {
            int greatest = 0;
            for (int t = 0; t < shelf.turns.size(); t++) greatest = Math.max(greatest, withTurn(list, p, t));
            if (greatest < least) {
                best = p;
                least = greatest;
            }
        }
        return yes(best);
    }

    private void fraction(long a, long b) {
        long d = b;
        while (a % d != 0 || b % d != 0) d--;
        top = a / d;
        bottom = b / d;
    }

    public boolean chance(int book, int place, int turn) {
        if (noBook(book) || noTurn(turn)) return not(2);
        if (place < 1 || place > shelf.books.get(book).misses) return not(5);
        List<List<Integer>> list = all(book, believed());
        if (list.isEmpty()) return not(8);
        fraction(withTurn(list, place, turn), list.size());
        return done();
    }

    public int may(int book, int place) {
        if (noBook(book)) return no(2);
        if (place < 1 || place > shelf.books.get(book).misses) return no(5);
        int set = 0;
        for (List<Integer> one : all(book, believed())) set |= 1 << one.get(place - 1);
        return yes(set);
    }

    public int isEnding(int book, int tray, int n) {
        if (noTray(tray)) return no(1);
        if (noBook(book)) return no(2);
        if (trays[tray] == null) return no(3);
        if (n > trays[tray].length) return no(4);
        if (n != shelf.books.get(book).misses) return no(5);
        List<Integer> turns = new ArrayList<>();
        for (int i = 0; i < n; i++) {
            if (trays[tray][i] < 0 || trays[tray][i] >= shelf.turns.size()) return no(5);
            turns.add((int) trays[tray][i]);
        }
        return yes(isOne(book, turns, believed()) ? 1 : 0);
    }

    // ---- finales

    private boolean fit(int book, int finale) {
        return isOne(book, shelf.finales.get(finale), believed());
    }

    public int fits(int book, int finale) {
        if (noBook(book) || noFinale(finale)) return no(2);
        return yes(fit(book, finale) ? 1 : 0);
    }

    public int finalesOf(int book) {
        if (noBook(book)) return no(2);
        int set = 0;
        for (int f = 0; f < shelf.finales.size(); f++) if (fit(book, f)) set |= 1 << f;
        return yes(set);
    }

    public int booksOf(int finale) {
        if (noFinale(finale)) return no(2);
        int set = 0;
        for (int b = 0; b < shelf.books.size(); b++) if (fit(b, finale)) set |= 1 << b;
        return yes(set);
    }

    public int oddness(int finale) {
        return noFinale(finale) ? no(2) : yes(oddOf(shelf.finales.get(finale)));
    }

    /** {the most books that get one, the ways in which all get one}, book by book, with one or without. */
    private long[] giveOut(int book, int given) {
        if (book == shelf.books.size()) return new long[] {0, 1};
        long most = giveOut(book + 1, given)[0];
        long ways = 0;
        for (int f = 0; f < shelf.finales.size(); f++) {
            if ((given >> f & 1) != 0 || !fit(book, f)) continue;
            long[] rest = giveOut(book + 1, given | 1 << f);
            most = Math.max(most, rest[0] + 1);
            ways += rest[1];
        }
        return new long[] {most, ways};
    }

    public int match() {
        return yes((int) giveOut(0, 0)[0]);
    }

    public long ways() {
        status = 0;
        return giveOut(0, 0)[1];
    }

    interface Holds {
        boolean in(int set);
    }

    /** The fewest, then the least as a number; -1 if none holds. */
    private static int fewest(int things, Holds holds) {
        for (int size = 0; size <= things; size++) {
            for (int set = 0; set < 1 << things; set++) {
                if (Integer.bitCount(set) == size && holds.in(set)) return set;
            }
        }
        return -1;
    }

    private int setOrNone(int set) {
        return set < 0 ? no(8) : yes(set);
    }

    private int sizeOrNone(int set) {
        return set < 0 ? no(8) : yes(Integer.bitCount(set));
    }

    private int clashing() {
        return fewest(shelf.books.size(), set -> {
            int together = 0;
            for (int b = 0; b < shelf.books.size(); b++) if ((set >> b & 1) != 0) together |= finalesOf(b);
            return Integer.bitCount(together) < Integer.bitCount(set);
        });
    }

    public int clash() {
        return sizeOrNone(clashing());
    }

    public int clashSet() {
        return setOrNone(clashing());
    }

    private int finishing() {
        return fewest(shelf.finales.size(), set -> {
            for (int b = 0; b < shelf.books.size(); b++) if ((finalesOf(b) & set) == 0) return false;
            return true;
        });
    }

    public int finish() {
        return sizeOrNone(finishing());
    }

    public int finishSet() {
        return setOrNone(finishing());
    }

    private int lying(int book) {
        return fewest(shelf.readers.size(), set -> {
            Set<Integer> heard = new HashSet<>();
            for (int r = 0; r < shelf.readers.size(); r++) if ((set >> r & 1) == 0) heard.add(r);
            return !all(book, heard).isEmpty();
        });
    }

    public int liars(int book) {
        return noBook(book) ? no(2) : sizeOrNone(lying(book));
    }

    public int liarSet(int book) {
        return noBook(book) ? no(2) : setOrNone(lying(book));
    }

    // ---- offers, watches

    private Set<Integer> knownSet(int offers) {
        Set<Integer> known = new HashSet<>();
        for (int i = 0; i < shelf.offers.size(); i++) if ((offers >> i & 1) != 0) known.addAll(shelf.offers.get(i).books);
        boolean more = true;
        while (more) {
            more = false;
            for (List<Integer> f : shelf.follows) more |= known.contains(f.get(0)) && known.add(f.get(1));
        }
        return known;
    }

    private static int cost(List<Priced> list, int set) {
        int sum = 0;
        for (int i = 0; i < list.size(); i++) if ((set >> i & 1) != 0) sum += list.get(i).cost;
        return sum;
    }

    public int known(int offers) {
        if (offers < 0 || offers >> shelf.offers.size() != 0) return no(5);
        return yes(setOf(knownSet(offers)));
    }

    private List<Integer> sets(int things) {
        List<Integer> list = new ArrayList<>();
        for (int set = 0; set < 1 << things; set++) list.add(set);
        return list;
    }

    private int buying(int much) {
        return sets(shelf.offers.size()).stream().filter(s -> cost(shelf.offers, s) <= much).min((a, b) -> {
            int by = knownSet(b).size() - knownSet(a).size();
            by = by != 0 ? by : cost(shelf.offers, a) - cost(shelf.offers, b);
            by = by != 0 ? by : Integer.bitCount(a) - Integer.bitCount(b);
            return by != 0 ? by : a - b;
        }).get();
    }

    public int buy(int much) {
        return much < 0 || much > 999 ? no(5) : yes(knownSet(buying(much)).size());
    }

    public int buySet(int much) {
        return much < 0 || much > 999 ? no(5) : yes(buying(much));
    }

    public int cheapest() {
        return sets(shelf.offers.size()).stream().filter(s -> knownSet(s).size() == shelf.books.size())
            .mapToInt(s -> cost(shelf.offers, s)).min().stream().map(this::yes).findFirst().orElseGet(() -> no(8));
    }

    private int guarding(int many) {
        return sets(shelf.watches.size()).stream().filter(s -> {
            for (int b = 0; b < shelf.books.size(); b++) if (guards(s, b) < many) return false;
            return true;
        }).min((a, b) -> {
            int by = cost(shelf.watches, a) - cost(shelf.watches, b);
            by = by != 0 ? by : Integer.bitCount(a) - Integer.bitCount(b);
            return by != 0 ? by : a - b;
        }).orElse(-1);
    }

    private int guards(int set, int book) {
        int n = 0;
        for (int w = 0; w < shelf.watches.size(); w++) {
            if ((set >> w & 1) != 0 && shelf.watches.get(w).books.contains(book)) n++;
        }
        return n;
    }

    public int guard(int many) {
        if (many < 1 || many > 3) return no(5);
        int set = guarding(many);
        return set < 0 ? no(8) : yes(cost(shelf.watches, set));
    }

    public int guardSet(int many) {
        return many < 1 || many > 3 ? no(5) : setOrNone(guarding(many));
    }

    public int barest() {
        int best = -1;
        for (int b = 0; b < shelf.books.size(); b++) if (best < 0 || guards(255, b) < guards(255, best)) best = b;
        return setOrNone(best);
    }

    // ---- weeks

    private int s;
    private int come;
    private int[] tally;

    private int draw(int n) {
        s = (s * 2971 + 10687) % 65536;
        return s / 8 % n;
    }

    private void runAll(int seed) {
        s = seed;
        come = 0;
        tally = new int[5];
        try {
            run(shelf.weeks);
        } catch (Stop stop) {
            tally[4] = stop.cut ? 1 : 0;
        }
    }

    private void run(List<Step> steps) {
        for (Step step : steps) {
            if (come == 300) throw new Stop(true);
            come++;
            switch (step.word) {
                case "bind" -> {
                    if (canBind(step.thing, step.number)) {
                        shelf.bound.put(step.thing, step.number);
                        tally[1]++;
                    } else {
                        tally[0]++;
                    }
                }
                case "loose" -> tally[shelf.bound.remove(step.thing) == null ? 0 : 2]++;
                case "call" -> shelf.readers.set(step.thing, !shelf.readers.get(step.thing));
                case "guess" -> guess(step.thing);
                case "when" -> {
                    if (test(step)) run(step.steps);
                }
                case "loop" -> {
                    for (int i = 0; i < step.number; i++) run(step.steps);
                }
                default -> throw new Stop(false);
            }
        }
    }

    private void guess(int book) {
        List<Integer> free = new ArrayList<>();
        for (int f = 0; f < shelf.finales.size(); f++) if (canBind(book, f)) free.add(f);
        if (free.isEmpty()) {
            tally[0]++;
            return;
        }
        shelf.bound.put(book, free.get(draw(free.size())));
        tally[1]++;
        tally[3]++;
    }

    private boolean test(Step step) {
        if (step.test.equals("done")) return shelf.bound.containsKey(step.thing);
        int v;
        if (step.test.equals("left")) v = shelf.books.size() - shelf.bound.size();
        else v = shelf.bound.containsKey(step.thing) ? oddOf(shelf.finales.get(shelf.bound.get(step.thing))) : 0;
        return step.sign == '<' ? v < step.number : step.sign == '>' ? v > step.number : v == step.number;
    }

    public int live(int seed) {
        if (seed < 0 || seed > 9999) return no(5);
        if (shelf.weeks == null) return no(8);
        runAll(seed);
        lived = tally;
        return yes(come);
    }

    public int lived(int what) {
        if (what < 0 || what > 4) return no(5);
        return lived == null ? no(8) : yes(lived[what]);
    }

    public boolean mean(int seed, int many) {
        if (seed < 0 || many < 1 || many > 20 || (long) seed + many - 1 > 9999) return not(5);
        if (shelf.weeks == null) return not(8);
        Shelf now = shelf;
        int sum = 0;
        for (int i = 0; i < many; i++) {
            shelf = now.copy();
            runAll(seed + i);
            sum += shelf.bound.size();
        }
        shelf = now;
        fraction(sum, many);
        return done();
    }

    // ---- marks

    public int mark() {
        if (marks.size() == 3) return no(7);
        marks.push(shelf.copy());
        return yes(marks.size());
    }

    public int back() {
        if (marks.isEmpty()) return no(8);
        shelf = marks.pop();
        return yes(marks.size());
    }
}
