/** Promises 9, 10 and 12: the tape, the text of a shelf and its faults. */
public final class TextsTest {
    private static final String HEAD = "state s;turn t;book b from s misses 3;book c from s misses 1;finale f t;reader r;";

    public static void main(String[] args) {
        tape();
        shelf();
        faultCall();
        tokens();
        standing();
        names();
        numbers();
        following();
        tooMany();
        firstAndLeast();
        Checks.end();
    }

    private static void tape() {
        LastPages x = new LastPages();
        for (int i = 1; i <= 45; i++) {
            Checks.due("9 feed " + i, x.feed(0x20202020, 0x20202020, 0x20202020, 0x20202020, 0x20202020), 20 * i);
        }
        Checks.due("9 above 900", x.feed(0, 0, 0, 0, 0), -1);
        Checks.due("9 no status", x.status(), 0);
        Checks.refused("10 above the tape", x, x.shelf(901), 5);
        Checks.fine("10 nine hundred blanks", x, x.shelf(900), 0);
        Checks.due("9 it is empty then", x.feed(0, 0, 0, 0, 0), 20);

        LastPages y = new LastPages();
        // "stat" "e ab" "c fi" "nal;" and a byte above 127: the highest byte of each is the first.
        y.feed(0x73746174, 0x65206162, 0x63206669, 0x6e616c3b, 0xff202020);
        Checks.refused("9 the order of bytes", y, y.shelf(17), 10);
        Checks.due("9 fault", y.fault(0), 1);
        Checks.due("9 fault place", y.fault(1), 16);
        y.feed(0x73746174, 0x65206162, 0x63206669, 0x6e616c3b, 0xff202020);
        Checks.fine("10 the first n alone", y, y.shelf(16), 0);
        Checks.fine("10 a state", y, y.many(0), 1);
        Checks.fine("10 that is final", y, y.many(9), 1);
    }

    private static void shelf() {
        LastPages x = new LastPages();
        Checks.fine("10 how many books", x, Checks.shelf(x, Shelves.MOOR), 4);
        Checks.refused("10 the tape is empty", x, x.shelf(1), 5);
        Checks.refused("10 below 0", x, x.shelf(-1), 5);
        Checks.refused("10 far below 0", x, x.shelf(Integer.MIN_VALUE), 5);
        Checks.feed(x, "state a;");
        Checks.refused("10 more than there is", x, x.shelf(21), 5);
        Checks.due("10 with 5 the tape stays", x.feed(0, 0, 0, 0, 0), 40);
        Checks.fine("10 and can be taken", x, x.shelf(8), 0);
        Checks.fine("10 in place of that ahead", x, x.many(2), 0);
        Checks.fine("10 one state", x, x.many(0), 1);
        Checks.feed(x, "state b;x");
        Checks.refused("10 a fault", x, x.shelf(9), 10);
        Checks.fine("10 the old one stays", x, x.many(0), 1);
        Checks.due("10 the tape is empty behind a fault", x.feed(0, 0, 0, 0, 0), 20);
        Checks.fine("10 nothing", x, x.shelf(0), 0);
        Checks.fine("10 a shelf of nothing", x, x.many(0), 0);

        LastPages y = Checks.with(Shelves.MOOR);
        y.call(0, true);
        y.bind(0, 0);
        Checks.weeks(y, "stop;");
        Checks.refused("10 a fault takes nothing", y, Checks.shelf(y, "state a"), 10);
        Checks.fine("10 bound still", y, y.many(10), 1);
        Checks.fine("10 a liar still", y, y.many(11), 1);
        Checks.fine("10 weeks still", y, y.live(0), 1);
        Checks.shelf(y, Shelves.MOOR);
        Checks.fine("10 nothing is bound", y, y.many(10), 0);
        Checks.fine("10 all are believed", y, y.many(11), 0);
        Checks.refused("10 no weeks", y, y.live(0), 8);
    }

    private static void faultCall() {
        LastPages x = new LastPages();
        Checks.due("12 ahead of any", x.fault(0), -1);
        Checks.due("12 ahead of any, place", x.fault(1), -1);
        x.shelf(1);
        Checks.due("12 5 does not count", x.fault(0), -1);
        Checks.faultyShelf("12", "", "state", 2, 5);
        Checks.shelf(x, "state 1;");
        Checks.due("12 kind", x.fault(0), 2);
        Checks.due("12 place", x.fault(1), 6);
        Checks.due("12 what 2", x.fault(2), -1);
        Checks.due("12 what -1", x.fault(-1), -1);
        x.shelf(5);
        Checks.due("12 as it was behind a 5", x.fault(0), 2);
        Checks.weeks(x, "stop;?");
        Checks.due("12 of weeks", x.fault(0), 1);
        Checks.due("12 of weeks, place", x.fault(1), 5);
        x.weeks(301);
        Checks.due("12 as it was behind a 5 of weeks", x.fault(0), 1);
        Checks.shelf(x, "");
        Checks.due("12 none", x.fault(0), 0);
        Checks.due("12 none, place", x.fault(1), -1);
    }

    private static void tokens() {
        Checks.rightShelf("state s;turn t odd 9;state u;");
        Checks.rightShelf("state\ns\n;\n\n  turn t odd9;book b from s misses0003t;");
        Checks.rightShelf("state s;turn t;book b from s misses 3t t;");
        Checks.faultyShelf("1", "", "state s;\tturn t;", 1, 8);
        Checks.faultyShelf("1", "", "state s;\rturn t;", 1, 8);
        Checks.faultyShelf("1", "", "state S;", 1, 6);
        Checks.faultyShelf("1", "", "state s:", 1, 7);
        Checks.faultyShelf("1", "", "state s?;", 1, 7);
        Checks.faultyShelf("1", "", "state s\u0000;", 1, 7);
        Checks.faultyShelf("1", "", "state s\u00e1;", 1, 7);
        Checks.faultyShelf("1", "", "state s@;", 1, 7);
        Checks.faultyShelf("1", "", "state s[;", 1, 7);
        Checks.faultyShelf("1", "", "state s`;", 1, 7);
        Checks.faultyShelf("1", "", "state s{;", 1, 7);
        Checks.faultyShelf("1", "", "state s/;", 1, 7);
        Checks.faultyShelf("1 five digits", "", "turn t odd 00001;", 1, 11);
        Checks.faultyShelf("1 five digits where no number can stand", "", "turn 12345;", 1, 5);
        Checks.faultyShelf("1 very many digits", "", "turn t odd 000000000000000000000000000001;", 1, 11);
        Checks.rightShelf("turn t odd 0001;");
        Checks.faultyShelf("2 a word goes on", "", "statea;", 2, 0);
        Checks.rightShelf("state tox;");
        Checks.faultyShelf("2 a sign that is a token", "", "state s<;", 2, 7);
        Checks.faultyShelf("2 a sign that is a token", "", "state s>;", 2, 7);
        Checks.faultyShelf("2 a sign that is a token", "", "=", 2, 0);
    }

    private static void standing() {
        Checks.faultyShelf("2", "", "s;", 2, 0);
        Checks.faultyShelf("2", "", ";", 2, 0);
        Checks.faultyShelf("2", "", "5;", 2, 0);
        Checks.faultyShelf("2 bind is no part", HEAD, "bind b f;", 2, 0);
        Checks.faultyShelf("2 the end", "", "state s", 2, 7);
        Checks.faultyShelf("2 the end behind blanks", "", "state s  \n ", 2, 11);
        Checks.faultyShelf("2", "", "state ;", 2, 6);
        Checks.faultyShelf("2", "", "state s t;", 2, 8);
        Checks.faultyShelf("2", "", "state s final final;", 2, 14);
        Checks.faultyShelf("2", "", "turn t odd;", 2, 10);
        Checks.faultyShelf("2", "", "turn t odd x;", 2, 11);
        Checks.faultyShelf("2", "", "turn t odd 1 2;", 2, 13);
        Checks.faultyShelf("2", "", "turn t final;", 2, 7);
        Checks.faultyShelf("2", HEAD, "rule s t s;", 2, 9);
        Checks.faultyShelf("2", HEAD, "rule s t to;", 2, 11);
        Checks.faultyShelf("2", HEAD, "rule s t to s s;", 2, 14);
        Checks.faultyShelf("2", HEAD, "rule s to s;", 2, 7);
        Checks.faultyShelf("2", HEAD, "book d s misses 1;", 2, 7);
        Checks.faultyShelf("2", HEAD, "book d from misses 1;", 2, 12);
        Checks.faultyShelf("2", HEAD, "book d from s misses;", 2, 20);
        Checks.faultyShelf("2", HEAD, "book d from s misses t;", 2, 21);
        Checks.faultyShelf("2", HEAD, "book d from s misses 1 2;", 2, 23);
        Checks.faultyShelf("2", HEAD, "book d from s misses 1 t", 2, 24);
        Checks.faultyShelf("2", HEAD, "finale;", 2, 6);
        Checks.faultyShelf("2 without turns", HEAD, "finale g;", 2, 8);
        Checks.faultyShelf("2 without turns, the end", HEAD, "finale g ", 2, 9);
        Checks.faultyShelf("2", HEAD, "finale g 1;", 2, 9);
        Checks.faultyShelf("2", HEAD, "hint b 1 is t by r;", 2, 7);
        Checks.faultyShelf("2", HEAD, "hint b at is t by r;", 2, 10);
        Checks.faultyShelf("2", HEAD, "hint b at 1 t by r;", 2, 12);
        Checks.faultyShelf("2", HEAD, "hint b at 1 is by r;", 2, 15);
        Checks.faultyShelf("2", HEAD, "hint b at 1 is t r;", 2, 17);
        Checks.faultyShelf("2", HEAD, "hint b at 1 is t by;", 2, 19);
        Checks.faultyShelf("2", HEAD, "hint b at 1 is t by r r;", 2, 22);
        Checks.faultyShelf("2", HEAD, "reader;", 2, 6);
        Checks.faultyShelf("2", HEAD, "reader q r;", 2, 9);
        Checks.faultyShelf("2", HEAD, "offer o tells b;", 2, 8);
        Checks.faultyShelf("2", HEAD, "offer o costs tells b;", 2, 14);
        Checks.faultyShelf("2", HEAD, "offer o costs 1 b;", 2, 16);
        Checks.faultyShelf("2", HEAD, "offer o costs 1 guards b;", 2, 16);
        Checks.faultyShelf("2", HEAD, "offer o costs 1 tells b 1;", 2, 24);
        Checks.faultyShelf("2", HEAD, "watch w costs 1 tells b;", 2, 16);
        Checks.faultyShelf("2", HEAD, "follows b;", 2, 9);
        Checks.faultyShelf("2", HEAD, "follows b c b;", 2, 12);
        // Where another part's word stands too early, that part must not be taken for the next one.
        String next = "reader q;";
        String[] broken = {"state x", "turn x", "turn x odd", "rule", "rule s", "rule s t", "rule s t to", "rule s t to s",
            "book", "book d", "book d from", "book d from s", "book d from s misses", "book d from s misses 1",
            "book d from s misses 1 t", "finale", "finale g", "finale g t", "hint", "hint b", "hint b at", "hint b at 1",
            "hint b at 1 is", "hint b at 1 is t", "hint b at 1 is t by", "hint b at 1 is t by r", "reader", "reader x", "offer",
            "offer o", "offer o costs", "offer o costs 1", "offer o costs 1 tells", "offer o costs 1 tells b", "watch",
            "watch w", "watch w costs", "watch w costs 1", "watch w costs 1 guards", "follows", "follows b", "follows b c"};
        for (String part : broken) {
            Checks.faultyShelf("2", HEAD, part + " " + next, 2, part.length() + 1);
        }
        Checks.rightShelf(HEAD + "offer o costs 1 tells;watch w costs 1 guards;");
        Checks.rightShelf(HEAD + "offer o costs 1 tells b b b;watch w costs 1 guards c c;");
    }

    private static void names() {
        Checks.rightShelf("state abcdefgh;");
        Checks.faultyShelf("2 nine letters", "", "state abcdefghi;", 2, 6);
        Checks.faultyShelf("2 nine letters, eight of which are taken", "state abcdefgh;", "turn t;book b from abcdefghi misses 1;", 2, 19);
        String reserved = "state final turn odd rule to book from misses finale hint at is by reader offer costs tells "
            + "watch guards follows bind loose call guess when done left loop end stop";
        for (String word : reserved.split(" ")) {
            Checks.faultyShelf("2 no name", "", "reader " + word + ";", 2, 7);
            Checks.rightShelf("reader x" + word.substring(1) + ";");
        }
        for (String taken : "s t b c f r".split(" ")) {
            Checks.faultyShelf("3 taken", HEAD, "state " + taken + ";", 3, 6);
            Checks.faultyShelf("3 taken", HEAD, "turn " + taken + ";", 3, 5);
            Checks.faultyShelf("3 taken", HEAD, "book " + taken + " from s misses 1;", 3, 5);
            Checks.faultyShelf("3 taken", HEAD, "finale " + taken + " t;", 3, 7);
            Checks.faultyShelf("3 taken", HEAD, "reader " + taken + ";", 3, 7);
            Checks.faultyShelf("3 taken", HEAD, "offer " + taken + " costs 1 tells b;", 3, 6);
            Checks.faultyShelf("3 taken", HEAD, "watch " + taken + " costs 1 guards b;", 3, 6);
        }
        Checks.faultyShelf("3 an offer's", HEAD + "offer o costs 1 tells b;", "watch o costs 1 guards b;", 3, 6);
        Checks.faultyShelf("3 a watch's", HEAD + "watch w costs 1 guards b;", "state w;", 3, 6);
        Checks.faultyShelf("3 no state", HEAD, "rule t t to s;", 3, 5);
        Checks.faultyShelf("3 no turn", HEAD, "rule s s to s;", 3, 7);
        Checks.faultyShelf("3 no state", HEAD, "rule s t to t;", 3, 12);
        Checks.faultyShelf("3 no state", HEAD, "book d from b misses 1;", 3, 12);
        Checks.faultyShelf("3 no turn", HEAD, "book d from s misses 1 t s;", 3, 25);
        Checks.faultyShelf("3 no turn", HEAD, "finale g t f;", 3, 11);
        Checks.faultyShelf("3 itself", HEAD, "finale g g;", 3, 9);
        Checks.faultyShelf("3 no book", HEAD, "hint f at 1 is t by r;", 3, 5);
        Checks.faultyShelf("3 no turn", HEAD, "hint b at 1 is s by r;", 3, 15);
        Checks.faultyShelf("3 no reader", HEAD, "hint b at 1 is t by b;", 3, 20);
        Checks.faultyShelf("3 no book", HEAD, "offer o costs 1 tells b f;", 3, 24);
        Checks.faultyShelf("3 itself", HEAD, "offer o costs 1 tells o;", 3, 22);
        Checks.faultyShelf("3 no book", HEAD, "watch w costs 1 guards s;", 3, 23);
        Checks.faultyShelf("3 no book", HEAD, "follows s b;", 3, 8);
        Checks.faultyShelf("3 no book", HEAD, "follows b s;", 3, 10);
        Checks.faultyShelf("3 not told ahead", "", "state s;rule s t to s;turn t;", 3, 15);
        Checks.faultyShelf("3 unknown", HEAD, "follows b zzz;", 3, 10);
        Checks.rightShelf("state a;turn aa;turn aaa;reader ab;reader b;");
    }

    private static void numbers() {
        Checks.faultyShelf("4", "", "turn t odd 10;", 4, 11);
        Checks.faultyShelf("4", "", "turn t odd 9999;", 4, 11);
        Checks.rightShelf("turn t odd 0;turn u odd 9;turn v odd 0009;");
        Checks.faultyShelf("4", HEAD, "book d from s misses 0;", 4, 21);
        Checks.faultyShelf("4", HEAD, "book d from s misses 7;", 4, 21);
        Checks.rightShelf(HEAD + "book d from s misses 6;");
        Checks.faultyShelf("4", HEAD, "hint b at 0 is t by r;", 4, 10);
        Checks.faultyShelf("4", HEAD, "hint b at 4 is t by r;", 4, 10);
        Checks.rightShelf(HEAD + "hint b at 3 is t by r;");
        Checks.faultyShelf("4", HEAD, "hint c at 2 is t by r;", 4, 10);
        Checks.faultyShelf("4", HEAD, "offer o costs 100 tells b;", 4, 14);
        Checks.rightShelf(HEAD + "offer o costs 99 tells b;offer p costs 0 tells;");
        Checks.faultyShelf("4", HEAD, "watch w costs 100 guards b;", 4, 14);
        Checks.rightShelf(HEAD + "watch w costs 99 guards b;watch v costs 0 guards;");
    }

    private static void following() {
        Checks.faultyShelf("5", HEAD, "follows b b;", 5, 10);
        Checks.rightShelf(HEAD + "follows b c;follows c b;follows b c;");
        Checks.faultyShelf("5 at the name, not at the end", HEAD, "follows c c", 5, 10);
    }

    private static String times(int n, String part) {
        StringBuilder text = new StringBuilder();
        for (int i = 0; i < n; i++) {
            text.append(part.replace('#', (char) ('a' + i)));
        }
        return text.toString();
    }

    private static void limit(String part, int most) {
        Checks.rightShelf("state s;turn t;book b from s misses 3;reader r;" + times(most, part));
        Checks.faultyShelf("6", "state s;turn t;book b from s misses 3;reader r;" + times(most, part),
            part.replace('#', 'z'), 6, 0);
    }

    private static void tooMany() {
        limit("state x#;", 7);
        limit("turn x#;", 7);
        limit("book x# from s misses 1;", 5);
        limit("finale x# t;", 8);
        limit("reader x#;", 5);
        limit("hint b at 1 is t by r;", 12);
        limit("offer x# costs 1 tells b;", 6);
        limit("watch x# costs 1 guards b;", 8);
        Checks.rightShelf("state s;turn t;" + times(30, "rule s t to s;"));
        Checks.rightShelf(HEAD + times(30, "follows b c;"));
        Checks.faultyShelf("6 at the word, whatever comes", times(8, "state x#;"), "state", 6, 0);
        Checks.rightShelf(HEAD + "book d from s misses 1 t t t t t t t t t t;");
        Checks.faultyShelf("6 an 11th page", HEAD, "book d from s misses 1 t t t t t t t t t t t;", 6, 43);
        Checks.faultyShelf("3 is less than 6", HEAD, "book d from s misses 1 t t t t t t t t t t s;", 3, 43);
        Checks.faultyShelf("2 is less than 6", HEAD, "book d from s misses 1 t t t t t t t t t t 1;", 2, 43);
        Checks.rightShelf(HEAD + "finale g t t t t t t;");
        Checks.faultyShelf("6 a seventh turn", HEAD, "finale g t t t t t t t;", 6, 21);
        Checks.faultyShelf("3 is less than 6", HEAD, "finale g t t t t t t f;", 3, 21);
    }

    private static void firstAndLeast() {
        Checks.faultyShelf("the first along the text", "", "state s;turn s;?", 3, 13);
        Checks.faultyShelf("the first along the text", "", "turn t odd 10 ?", 4, 11);
        Checks.faultyShelf("1 is the least", "", "state ?;", 1, 6);
        Checks.faultyShelf("1 is the least, for a name", "", "state 123456;", 1, 6);
        Checks.faultyShelf("1 is the least, for a number", "", "turn t odd ?;", 1, 11);
        Checks.faultyShelf("1 is the least, for a semicolon", "", "turn t ?", 1, 7);
        Checks.faultyShelf("1 is the least, for a page", HEAD, "book d from s misses 1 t t t t t t t t t t ?;", 1, 43);
        Checks.faultyShelf("1 where a part must stand", "", "?", 1, 0);
    }
}
