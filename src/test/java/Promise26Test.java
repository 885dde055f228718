/** Promise 26, seed: one test for each boundary that the document names. */
public final class Promise26Test {
    private static final long[] LONGS = {0, 1, -1, -2, -9, Integer.MAX_VALUE, Integer.MIN_VALUE, 1L << 32, -1L << 33,
        Long.MAX_VALUE, Long.MIN_VALUE, 0};

    public static void main(String[] args) {
        zeroAtFirst();
        everyLong();
        allElseStays();
        Check.end();
    }

    private static void zeroAtFirst() {
        Check.sentence("promise 26, THE SEED, 0 at first");
        Check.due("seed(9)", new BrinePans().seed(9), 0);
        Check.due("of a marsh", Check.made("MN035S1").seed(9), 0);
    }

    private static void everyLong() {
        Check.sentence("promise 26, a long: what it was");
        BrinePans x = new BrinePans();
        long before = 0;
        for (long v : LONGS) {
            Check.due("seed(" + v + ")", x.seed(v), before);
            before = v;
        }
    }

    private static void allElseStays() {
        Check.sentence("promise 26, all else stays");
        Check.Lead lead = Check.marsh("MN019N020S1").then(x -> {
            x.turn(0);
            x.keep(0);
            x.day();
            x.find(1, 1, 1);
        });
        Check.changesNothing("seed(7), and seed(0)", lead, x -> x.seed(7) + x.seed(0));
    }
}
