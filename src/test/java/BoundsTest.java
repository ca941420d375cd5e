/** One test for each sentence of the document that names a boundary case. */
public final class BoundsTest {
    public static void main(String[] args) throws Exception {
        Sentences.readDocument();
        Sentences.ahead("An object is used for at most 512 calls after it has been made; what later calls answer is "
            + "free.", BoundsTest::calls);
        BoundsOfTerms.run();
        BoundsOfStories.run();
        BoundsOfWeeks.run();
        BoundsOfStatus.run();
        BoundsOfPromises.run();
        BoundsOfAnswers.run();
        Sentences.end();
    }

    /** The same calls again and again, up to the 512th, always answer the same. */
    private static void calls() {
        LastPages x = Checks.with(Rich.SHELF);
        Checks.weeks(x, Rich.WEEKS);
        long[] first = new long[14];
        int before = feeds(Rich.SHELF) + 2 + feeds(Rich.WEEKS) + 1;
        for (int i = 0; i < 512 - before; i++) {
            long got = one(x, i % first.length);
            if (i < first.length) {
                first[i] = got;
            }
            Checks.due("call " + i, got, first[i % first.length]);
        }
    }

    private static int feeds(String text) {
        return (text.length() + 19) / 20;
    }

    private static long one(LastPages x, int which) {
        switch (which) {
            case 0: return x.mark();
            case 1: return x.live(4711);
            case 2: return x.lived(3);
            case 3: return x.mean(9980, 20) ? 1 : 0;
            case 4: return x.ways();
            case 5: return x.liarSet(1);
            case 6: return x.clashSet();
            case 7: return x.buySet(999);
            case 8: return x.guardSet(1);
            case 9: return x.strange(0, 5) ? 1 : 0;
            case 10: return x.best(0);
            case 11: return x.lead(0, 0, 1) ? 1 : 0;
            case 12: return x.hopeless();
            default: return x.back();
        }
    }
}
