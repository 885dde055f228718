/** Promise 27, years: one test for each boundary that the document names. */
public final class Promise27Test {
    private static final long TIMES = 6364136223846793005L;
    private static final long MORE = 1442695040888963407L;

    public static void main(String[] args) {
        howOften();
        wrapping();
        upperBits();
        gatesTurned();
        inchesLet();
        seaOf3();
        daysFrom12();
        ifItCanBe();
        together();
        nothingButTheSeed();
        Check.end();
    }

    private static long next(long seed) {
        return seed * TIMES + MORE;
    }

    /** The seed of which the next one is x: an odd number has one inverse in 64 bits, found digit by digit. */
    private static long seedBefore(long x) {
        long inverse = TIMES;
        for (int i = 0; i < 6; i++) {
            inverse *= 2 - TIMES * inverse;
        }
        return (x - MORE) * inverse;
    }

    private static long seedOf(int lot) {
        return seedBefore((long) lot << 33);
    }

    private static int lotOf(long x) {
        return (int) ((x >>> 33) % 24);
    }

    /** The first seed by which these lots come one behind the other; 12 stands for any day. */
    private static long seedOf(int... lots) {
        for (long seed = 1;; seed++) {
            long x = seed;
            int fit = 0;
            for (int lot : lots) {
                x = next(x);
                fit += Math.min(12, lotOf(x)) == lot ? 1 : 0;
            }
            if (fit == lots.length) {
                return seed;
            }
        }
    }

    private static int yearsFrom(BrinePans x, long seed, int m) {
        x.seed(seed);
        return x.years(m);
    }

    private static void howOften() {
        Check.sentence("promise 27, m times (1 .. 30); BAD: m");
        Check.Lead lead = Check.marsh("MN069").then(x -> x.seed(77));
        for (int m : new int[] {0, 31, -1, Integer.MIN_VALUE, Integer.MAX_VALUE}) {
            Check.refused("years(" + m + ")", lead, x -> x.years(m), BrinePans.BAD);
        }
        // full, and without a sun: 42 lie, whatever comes
        for (int m = 1; m <= 30; m++) {
            Check.due("years(" + m + ")", Check.after(lead).years(m), 42 * m);
        }
    }

    private static void wrapping() {
        Check.sentence("promise 27, x becomes x times 6364136223846793005 and 1442695040888963407, wrapping");
        for (long seed : new long[] {0, 1, -1, 1L << 32, Long.MAX_VALUE, Long.MIN_VALUE}) {
            BrinePans x = Check.made("MN069");
            x.seed(seed);
            long want = seed;
            for (int m : new int[] {1, 2, 30}) {
                x.years(m);
                for (int i = 0; i < m; i++) {
                    want = next(want);
                }
                Check.due("from " + seed, x.seed(want), want);
            }
        }
        BrinePans x = Check.made("M");
        x.years(1);
        Check.due("from 0, by hand", x.seed(0), MORE);
    }

    private static void upperBits() {
        Check.sentence("promise 27, what is left of its upper 31 bits by 24");
        // 2147483647 leaves 7: an inch is let on from pan 2
        BrinePans x = Check.made("MN000N000N062N002");
        Check.due("all bits", yearsFrom(x, seedBefore(-1L), 1), 15);
        // 1073741823 and 1073741824 leave 15 and 16: days
        x = Check.made("MN013S1");
        Check.due("the most", yearsFrom(x, seedBefore(Long.MAX_VALUE), 1), 30);
        Check.due("the least", yearsFrom(x, seedBefore(Long.MIN_VALUE), 1), 30);
        // the lower 33 bits are nothing to it: 10 is sea, 9 is none of pan 4, 11 is sea, 12 a day
        Check.due("10", yearsFrom(x, seedBefore(10L << 33), 1), 4);
        Check.due("10 and less than 1 less", yearsFrom(x, seedBefore((10L << 33) - 1), 1), 22);
        Check.due("11 and nearly 12", yearsFrom(x, seedBefore((12L << 33) - 1), 1), 4);
        Check.due("12", yearsFrom(x, seedBefore(12L << 33), 1), 30);
        Check.due("23 and nearly 24", yearsFrom(x, seedBefore((24L << 33) - 1), 1), 30);
        Check.due("24 leaves 0", yearsFrom(x, seedBefore(24L << 33), 1), 22);
        Check.due("34 leaves 10", yearsFrom(x, seedBefore(34L << 33), 1), 4);
    }

    private static String twoOfSix(int pan, String one, String other) {
        return "M" + "N000".repeat(pan) + one + other + "N000".repeat(4 - pan);
    }

    private static void gatesTurned() {
        Check.sentence("promise 27, 0 .. 4 that GATE is TURNED");
        for (int gate = 0; gate <= 4; gate++) {
            // with an inch 3 go on, and 15 of 23 lie there
            BrinePans x = Check.made(twoOfSix(gate, "N062", "N002"));
            for (int lot = 0; lot <= 4; lot++) {
                Check.due("lot " + lot, yearsFrom(x, seedOf(lot), 1), 20);
                Check.due("lot " + lot + ", and a day", yearsFrom(x, seedOf(lot, 12), 2), lot == gate ? 35 : 40);
                Check.due("turned twice, and a day", yearsFrom(x, seedOf(lot, lot, 12), 3), 60);
            }
            x.turn(gate);
            Check.due("shut, and a day", yearsFrom(x, seedOf(gate, 12), 2), 40);
        }
    }

    private static void inchesLet() {
        Check.sentence("promise 27, 5 .. 9 1 inch is LET on from that less 5 PAN");
        for (int pan = 0; pan <= 4; pan++) {
            BrinePans x = Check.made(twoOfSix(pan, "N062", "N002"));
            for (int lot = 5; lot <= 9; lot++) {
                Check.due("lot " + lot, yearsFrom(x, seedOf(lot), 1), lot == pan + 5 ? 15 : 20);
            }
        }
    }

    private static void seaOf3() {
        Check.sentence("promise 27, 10, 11 SEA of 3");
        BrinePans x = Check.made("MN003");
        Check.due("lot 9", yearsFrom(x, seedOf(9), 1), 30);
        Check.due("lot 10", yearsFrom(x, seedOf(10), 1), 12);
        Check.due("lot 11", yearsFrom(x, seedOf(11), 1), 12);
        Check.due("lot 12", yearsFrom(x, seedOf(12), 1), 30);
    }

    private static void daysFrom12() {
        Check.sentence("promise 27, 12 .. 23 A DAY");
        BrinePans x = Check.made("MN013S1");
        for (int lot = 0; lot <= 23; lot++) {
            int want = lot >= 12 ? 30 : lot >= 10 ? 4 : 22;
            Check.due("lot " + lot, yearsFrom(x, seedOf(lot), 1), want);
        }
    }

    private static void ifItCanBe() {
        Check.sentence("promise 27, each if it can be");
        Check.due("room for 3", yearsFrom(Check.made("MN035"), seedOf(10), 1), 8);
        Check.due("room for 2", yearsFrom(Check.made("MN045"), seedOf(10), 1), 18);
        Check.due("room for the inch", yearsFrom(Check.made("MN061N059"), seedOf(5), 1), 43);
        Check.due("no room for the inch", yearsFrom(Check.made("MN061N069"), seedOf(5), 1), 42);
        Check.due("no inch", yearsFrom(Check.made("MN001N009"), seedOf(5), 1), 100);
        Check.due("the last pan", yearsFrom(Check.made("MN061N059"), seedOf(6), 1), 50);
        Check.due("no such pan", yearsFrom(Check.made("MN061N059"), seedOf(9), 1), 50);
        Check.due("no such gate", yearsFrom(Check.made("MN062N002"), seedOf(1, 12), 2), 40);
        for (int lot = 0; lot <= 23; lot++) {
            Check.due("no pan, lot " + lot, yearsFrom(new BrinePans(), seedOf(lot), 1), 0);
        }
    }

    private static void together() {
        Check.sentence("promise 27, CRUST of all PANS, each time, together");
        // 34 now; behind a sun each 42, 50, 50
        BrinePans x = Check.made("MN025S1");
        long seed = seedOf(12, 12, 12);
        Check.due("once", yearsFrom(x, seed, 1), 42);
        Check.due("twice", yearsFrom(x, seed, 2), 42 + 50);
        Check.due("three times", yearsFrom(x, seed, 3), 42 + 50 + 50);
        x = Check.made("MN025N001S1");
        Check.due("of two pans", yearsFrom(x, seed, 2), 52 + 60);
    }

    private static void nothingButTheSeed() {
        Check.sentence("promise 27, nothing changes but THE SEED");
        Check.Lead lead = Check.marsh("MN365N121N204S1R4").then(x -> {
            x.turn(0);
            x.keep(0);
            x.day();
        });
        Check.changesNothing("years(30), and seed(0)", lead, x -> x.years(30) + x.seed(0));
        BrinePans x = Check.after(lead);
        int first = yearsFrom(x, 5, 20);
        Check.due("the same seed once more", yearsFrom(x, 5, 20), first);
    }
}
