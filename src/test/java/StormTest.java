import java.util.Random;

/** No call throws or is without an answer, whatever its arguments; what is refused changes nothing. */
public final class StormTest {
    private static final int[] EDGES = {Integer.MIN_VALUE, -1000, -33, -32, -10, -9, -2, -1, 0, 1, 2, 3, 4, 5, 6, 7, 8,
        9, 10, 12, 13, 14, 30, 31, 32, 33, 36, 64, 99, 100, 255, 256, 999, 1000, Integer.MAX_VALUE};
    private static final String[] TEXTS = {"", "M", "MS4", "MN069", "MN019N160S1", "MN160N260N360N060N150N009S1R4S4R1S0"};

    public static void main(String[] args) {
        for (int run = 0; run < 600; run++) {
            storm(new Random(run), TEXTS[run % TEXTS.length]);
        }
        Check.end();
    }

    private static int edge(Random chance) {
        return EDGES[chance.nextInt(EDGES.length)];
    }

    private static void storm(Random chance, String text) {
        BrinePans x = new BrinePans();
        Check.write(x, text);
        x.marsh();
        for (int i = 0; i < 200; i++) {
            String before = Check.seen(x);
            int which = chance.nextInt(28);
            long answer = which < 14 ? callOne(x, chance, which) : callOther(x, chance, which);
            boolean refused = answer < 0 && answer != BrinePans.NONE;
            if (refused && which != 26) {
                Check.due("refused, call " + which, Check.seen(x).equals(before) ? 1 : 0, 1);
            }
        }
    }

    private static long callOne(BrinePans x, Random chance, int which) {
        int a = edge(chance);
        int b = edge(chance);
        switch (which) {
            case 0: return x.write(a);
            case 1: return chance.nextInt(9) == 0 ? x.wipe() : 0;
            case 2: return x.fault();
            case 3: return x.marsh();
            case 4: return x.about(a);
            case 5: return x.pan(a, b);
            case 6: return x.day();
            case 7: return x.sea(a);
            case 8: return x.let(a, b);
            case 9: return x.turn(a);
            case 10: return x.rake(a);
            case 11: return x.undo();
            case 12: return x.later(a, b, edge(chance));
            default: return x.crust(a);
        }
    }

    private static long callOther(BrinePans x, Random chance, int which) {
        int a = edge(chance);
        int b = edge(chance);
        int c = edge(chance);
        switch (which) {
            case 14: return x.ripe(a);
            case 15: return x.best(a, b);
            case 16: return x.gates(a, b);
            case 17: return x.judge(a, chance.nextLong() >> chance.nextInt(64));
            case 18: return x.share(a, chance.nextBoolean()) < 0 ? 0 : 1;
            case 19: return x.find(a, b, c);
            case 20: return x.forget();
            case 21: return x.salts(a);
            case 22: return x.rests(a, b, c);
            case 23: return x.clouds(a, b, c, edge(chance), chance.nextBoolean());
            case 24: return x.years(a);
            case 25: return x.keep(a);
            case 26: return x.seed(chance.nextLong());
            default: return x.again(a);
        }
    }
}
