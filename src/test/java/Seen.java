/** All that can be seen of an object, as one text, by fewer than 300 calls; the object is of no use behind it. */
final class Seen {
    private final LastPages x;
    private final StringBuilder text = new StringBuilder();

    private Seen(LastPages x) {
        this.x = x;
    }

    static String of(LastPages x) {
        Seen seen = new Seen(x);
        seen.add(x.fault(0));
        seen.add(x.fault(1));
        seen.allBut();
        seen.tape();
        return seen.text.toString();
    }

    /** All but the tape and what fault() tells. */
    static String butTexts(LastPages x) {
        Seen seen = new Seen(x);
        seen.allBut();
        return seen.text.toString();
    }

    private void allBut() {
        told();
        trays();
        shelf();
        for (int i = 0; x.back() >= 0 && i < 5; i++) {
            text.append("\nback:");
            shelf();
        }
    }

    private void add(long number) {
        text.append(' ').append(number);
    }

    private void told() {
        add(x.top());
        add(x.bottom());
        for (int what = 0; what < 5; what++) {
            add(x.lived(what));
        }
    }

    private void trays() {
        for (int tray = 0; tray < 4; tray++) {
            text.append("\ntray:");
            for (int place = 0; place < 4; place++) {
                add(x.read(tray, place));
                add(x.status());
            }
        }
    }

    private void shelf() {
        text.append("\nmany:");
        for (int what = 0; what < 12; what++) {
            add(x.many(what));
        }
        rules();
        books();
        for (int i = 0; i < x.many(3); i++) {
            text.append("\nfinale:");
            for (int place = 1; place < 4; place++) {
                add(x.finale(i, place));
            }
        }
        for (int i = 0; i < x.many(5); i++) {
            text.append("\nhint:");
            for (int what = 0; what < 4; what++) {
                add(x.hint(i, what));
            }
        }
        lots();
        text.append("\nweeks:");
        add(x.mean(3, 2) ? 1 : 0);
        add(x.top());
        add(x.bottom());
    }

    private void rules() {
        for (int state = 0; state < x.many(0); state++) {
            text.append("\nrules:");
            for (int turn = 0; turn < x.many(1); turn++) {
                add(x.rule(state, turn));
            }
        }
        text.append("\nodd:");
        for (int turn = 0; turn < x.many(1); turn++) {
            add(x.odd(turn));
        }
    }

    private void books() {
        for (int book = 0; book < x.many(2); book++) {
            text.append("\nbook:");
            for (int what = 0; what < 6; what++) {
                add(x.book(book, what));
            }
            add(x.page(book, 0));
            add(x.endings(book));
        }
    }

    private void lots() {
        text.append("\noffers, watches:");
        for (int i = 0; i < x.many(6); i++) {
            add(x.offer(i, 0));
            add(x.offer(i, 1));
            add(x.known(1 << i));
        }
        for (int i = 0; i < x.many(7); i++) {
            add(x.watch(i, 0));
            add(x.watch(i, 1));
        }
    }

    /** How many there are on the tape, and what they are, as far as a shelf tells. */
    private void tape() {
        int many = x.feed(0x20202020, 0x20202020, 0x20202020, 0x20202020, 0x20202020);
        text.append("\ntape:");
        add(many);
        add(x.shelf(many));
        add(x.fault(0));
        add(x.fault(1));
        add(x.many(0));
        add(x.many(1));
    }
}
