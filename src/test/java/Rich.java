/** Objects of which every part has something in it, so that a change of any part can be seen. */
final class Rich {
    /** Of ba the only ending is t; bb has none but without the hints of rb, then t u and u t; bc breaks. */
    static final String SHELF = "state s final;state p;state q;turn t;turn u odd 3;turn v;"
        + "rule s t to s;rule s u to p;rule p u to s;rule p t to p;"
        + "book ba from s misses 1;book bb from s misses 2 u;book bc from q misses 1 v;finale fa t;finale fb t u;finale fc u u;"
        + "reader ra;reader rb;hint ba at 1 is t by ra;hint bb at 2 is u by rb;hint bb at 1 is u by rb;"
        + "offer oa costs 2 tells ba;offer ob costs 3 tells bb;watch wa costs 1 guards ba bb;watch wb costs 2 guards bc;"
        + "follows ba bb;";
    static final String WEEKS = "loose bb;guess ba;guess bb;";

    private Rich() { }

    /** By 60 calls: bb has fb, ba nothing; rb is a liar; weeks were lived; two marks; tray 3 is missing; 20 bytes on the tape. */
    static LastPages object() {
        LastPages x = new LastPages();
        Checks.shelf(x, SHELF);
        x.call(1, true);
        x.bind(1, 1);
        Checks.weeks(x, WEEKS);
        x.live(3);
        x.chance(1, 1, 0);
        x.mark();
        x.loose(0);
        x.strange(2, 9);
        x.mark();
        x.lead(2, 0, 1);
        x.tray(0, 0, 2);
        x.write(0, 0, 1);
        x.write(0, 1, 0);
        x.tray(1, 1, 3);
        x.write(1, 2, 6);
        x.tray(2, 1, 1);
        x.write(2, 0, 7);
        Checks.weeks(x, "stop;?");
        Checks.feed(x, "state zz;turn yy;");
        return x;
    }

    /** Like the one above, with as many marks as there may be. */
    static LastPages marked() {
        LastPages x = object();
        x.mark();
        return x;
    }

    /** Like the one above, but without weeks, lived ones, and marks. */
    static LastPages plain() {
        LastPages x = new LastPages();
        Checks.shelf(x, SHELF);
        x.call(1, true);
        x.bind(1, 1);
        x.chance(1, 1, 0);
        x.tray(0, 0, 2);
        x.write(0, 0, 1);
        Checks.feed(x, "state zz;turn yy;");
        return x;
    }
}
