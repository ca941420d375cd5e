/** Texts that several tests use. */
final class Shelves {
    private Shelves() { }

    /** Four states, turns, books and finales, two readers, three hints, offers and watches. */
    static final String MOOR = "state calm;state dead final;state wed final;state fled;"
        + "turn kiss odd 2;turn stab odd 5;turn flee;turn fog odd 0;"
        + "rule calm kiss to wed;rule calm stab to dead;rule calm flee to fled;rule fled fog to calm;"
        + "rule wed flee to fled;rule fled stab to dead;rule calm fog to calm;"
        + "book moor from calm misses 2 fog;book tide from calm misses 1 kiss flee;book lamp from calm misses 3 stab;"
        + "book rose from fled misses 2;"
        + "finale f fog kiss;finale g stab;finale h flee stab;finale i fog stab;"
        + "reader ann;reader bob;"
        + "hint moor at 1 is flee by ann;hint moor at 2 is kiss by bob;hint rose at 1 is fog by ann;"
        + "offer o costs 5 tells moor;offer p costs 7 tells tide rose;offer q costs 3 tells lamp;"
        + "watch u costs 4 guards moor tide;watch v costs 6 guards lamp rose tide;watch w costs 3 guards rose moor lamp;"
        + "follows moor lamp;follows lamp rose;";

    /** One state that every turn leads back to: every row of turns is an ending. */
    static String free(int turns, String rest) {
        StringBuilder text = new StringBuilder("state s final;");
        for (int i = 0; i < turns; i++) {
            char c = (char) ('a' + i);
            text.append("turn ").append(c).append(" odd ").append(i).append(";rule s ").append(c).append(" to s;");
        }
        return text.append(rest).toString();
    }

    /** A new object with so many finales of one turn, and a book for each set of finales, of which just these fit it. */
    static LastPages fits(int finales, int... sets) {
        StringBuilder text = new StringBuilder();
        for (int i = 0; i < sets.length; i++) {
            text.append("state s").append((char) ('a' + i)).append(';');
        }
        text.append("state z final;");
        for (int i = 0; i < finales; i++) {
            char c = (char) ('a' + i);
            text.append("turn t").append(c).append(";finale f").append(c).append(" t").append(c).append(';');
        }
        for (int i = 0; i < sets.length; i++) {
            char c = (char) ('a' + i);
            text.append("book b").append(c).append(" from s").append(c).append(" misses 1;");
        }
        LastPages x = Checks.with(text.toString());
        for (int i = 0; i < sets.length * finales; i++) {
            if ((sets[i / finales] >> i % finales & 1) != 0) {
                x.lead(i / finales, i % finales, sets.length);
            }
        }
        return x;
    }
}
