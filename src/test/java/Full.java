/** Shelves with as many of several things as there may be at once in 900 bytes. */
final class Full {
    private Full() { }

    /** Fifty names: states a to h, turns i to p, books q to v, finales w to zd, offers zk to zp, watches zq to zx, readers ze to zj. */
    static String names() {
        StringBuilder text = new StringBuilder();
        tell(text, 0, 8, "state # final;");
        tell(text, 8, 8, "turn #;");
        tell(text, 16, 6, "book # from h misses 1;");
        tell(text, 22, 8, "finale # p;");
        tell(text, 36, 6, "offer # costs 1 tells;");
        tell(text, 42, 8, "watch # costs 1 guards;");
        tell(text, 30, 6, "reader #;");
        return text.toString();
    }

    private static void tell(StringBuilder text, int first, int many, String part) {
        for (int i = first; i < first + many; i++) {
            String name = i < 26 ? String.valueOf((char) ('a' + i)) : "z" + (char) ('a' + i - 26);
            text.append(part.replace("#", name));
        }
    }

    /** Six books of ten pages, eight finales of six turns, twelve hints; the last of each is u, at the sixth place. */
    static String rows() {
        StringBuilder text = new StringBuilder("state s final;turn t;turn u;reader r;");
        for (char c = 'a'; c < 'g'; c++) {
            text.append("book k").append(c).append(" from s misses 6 t t t t t t t t t u;");
        }
        for (char c = 'a'; c < 'i'; c++) {
            text.append("finale f").append(c).append(" t t t t t u;");
        }
        return text + "hint ka at 1 is t by r;".repeat(11) + "hint kf at 6 is u by r;";
    }
}
