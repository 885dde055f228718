import java.util.Random;

/**
 * No call throws or is without an answer, whatever its arguments; what is refused changes nothing: a second object,
 * on which the refused calls are not made, answers all others alike.
 */
public final class StormTest {
    private static final int[] EDGES = {Integer.MIN_VALUE, -1000, -33, -32, -10, -9, -2, -1, 0, 1, 2, 3, 4, 5, 6, 7, 8,
        9, 10, 12, 13, 14, 30, 31, 32, 33, 36, 64, 99, 100, 255, 256, 999, 1000, Integer.MAX_VALUE};
    private static final String[] TEXTS = {"", "M", "MS4", "MN069", "MN019N160S1",
        "MN160N260N360N060N150N009S1R4S4R1S0"};
    private static final int RUNS = 3000;
    private static final int CALLS = 400;

    private final Random chance;
    private final BrinePans stormed = new BrinePans();
    private final BrinePans calm = new BrinePans();

    private StormTest(long seed) {
        chance = new Random(seed);
    }

    public static void main(String[] args) {
        for (int run = 0; run < RUNS; run++) {
            new StormTest(run).storm(TEXTS[run % TEXTS.length]);
        }
        Check.end();
    }

    private void storm(String text) {
        Check.marsh(text).on(stormed);
        Check.marsh(text).on(calm);
        for (int i = 0; i < CALLS; i++) {
            int which = chance.nextInt(28);
            int[] by = {edge(), edge(), edge(), edge()};
            long wide = chance.nextLong() >> chance.nextInt(64);
            long answer = call(stormed, which, by, wide);
            if (!isRefusal(which, answer)) {
                Check.due("call " + which, answer, call(calm, which, by, wide));
            }
        }
        Check.dueText("at the end", Check.seen(stormed), Check.seen(calm));
    }

    private int edge() {
        return EDGES[chance.nextInt(EDGES.length)];
    }

    /** Of about(3), of a share and of a seed an answer below 0 may be none. */
    private static boolean isRefusal(int which, long answer) {
        return which != 4 && which != 18 && which != 26 && answer < 0 && answer != BrinePans.NONE;
    }

    private static long call(BrinePans x, int which, int[] by, long wide) {
        return which < 14 ? callOne(x, which, by) : callOther(x, which, by, wide);
    }

    private static long callOne(BrinePans x, int which, int[] by) {
        switch (which) {
            case 0: return x.write(by[0]);
            case 1: return by[0] == 36 ? x.wipe() : 0;
            case 2: return x.fault();
            case 3: return x.marsh();
            case 4: return x.about(by[0]);
            case 5: return x.pan(by[0], by[1]);
            case 6: return x.day();
            case 7: return x.sea(by[0]);
            case 8: return x.let(by[0], by[1]);
            case 9: return x.turn(by[0]);
            case 10: return x.rake(by[0]);
            case 11: return x.undo();
            case 12: return x.later(by[0], by[1], by[2]);
            default: return x.crust(by[0]);
        }
    }

    private static long callOther(BrinePans x, int which, int[] by, long wide) {
        boolean upper = wide % 2 == 0;
        switch (which) {
            case 14: return x.ripe(by[0]);
            case 15: return x.best(by[0], by[1]);
            case 16: return x.gates(by[0], by[1]);
            case 17: return x.judge(by[0], wide);
            case 18: return x.share(by[0], upper);
            case 19: return x.find(by[0], by[1], by[2]);
            case 20: return by[0] == 36 ? x.forget() : 0;
            case 21: return x.salts(by[0]);
            case 22: return x.rests(by[0], by[1], by[2]);
            case 23: return x.clouds(by[0], by[1], by[2], by[3], upper);
            case 24: return x.years(by[0]);
            case 25: return x.keep(by[0]);
            case 26: return x.seed(wide);
            default: return x.again(by[0]);
        }
    }
}
