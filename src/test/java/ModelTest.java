import java.util.Random;

/** All promises: long runs of calls by chance (from fixed seeds), against the model's answers. */
public final class ModelTest {
    private static final int RUNS = 2000;
    /** A last text, and what is asked at the end, come behind them: together no more than 512. */
    private static final int CALLS = 450;
    private static final int[] WILD = {-1, 7, 10, 31, 36, 100, 256, 1000, Integer.MAX_VALUE, Integer.MIN_VALUE};

    private final Random chance;
    private final BrinePans x = new BrinePans();
    private final Model model = new Model();
    private String call = "";
    private int calls = 0;

    private ModelTest(long seed) {
        chance = new Random(seed);
    }

    public static void main(String[] args) {
        for (int run = 0; run < RUNS; run++) {
            new ModelTest(run).run(run);
        }
        Check.end();
    }

    private void run(int run) {
        while (calls < CALLS) {
            oneCall(run);
        }
        for (int what = 0; what <= 12; what++) {
            Check.due("run " + run + ", at the end: about(" + what + ")", x.about(what), model.about(what));
        }
    }

    /** One of 0 .. most, now and then one that no call takes. */
    private int some(int most) {
        return chance.nextInt(40) == 0 ? WILD[chance.nextInt(WILD.length)] : chance.nextInt(most + 1);
    }

    private void due(int run, String name, long got, long want) {
        calls++;
        Check.due("run " + run + ": " + name + call, got, want);
    }

    private void oneCall(int run) {
        int which = chance.nextInt(40);
        if (which == 0) {
            writeText(run);
        } else if (which < 16) {
            act(run, which);
        } else if (which < 24) {
            ask(run, which);
        } else {
            askMore(run, which);
        }
    }

    private void writeText(int run) {
        due(run, "wipe", x.wipe(), model.wipe());
        String text = someText();
        for (int i = 0; i < text.length(); i++) {
            due(run, "write", x.write(text.charAt(i)), model.write(text.charAt(i)));
        }
        call = " of " + text;
        due(run, "fault", x.fault(), model.fault());
        due(run, "marsh", x.marsh(), model.marsh());
        due(run, "fault", x.fault(), model.fault());
    }

    private String someText() {
        StringBuilder text = new StringBuilder("M");
        int things = chance.nextInt(10);
        for (int i = 0; i < things; i++) {
            switch (chance.nextInt(5)) {
                case 0: text.append('S').append(chance.nextInt(5)); break;
                case 1: text.append('R').append(1 + chance.nextInt(4)); break;
                default:
                    text.append('N').append(chance.nextInt(4)).append(chance.nextInt(7)).append(chance.nextInt(10));
                    break;
            }
        }
        if (chance.nextInt(4) == 0) {
            text.setCharAt(chance.nextInt(text.length()), "MNSR0123456789X".charAt(chance.nextInt(15)));
        }
        if (chance.nextInt(6) == 0) {
            text.setLength(chance.nextInt(text.length() + 1));
        }
        return text.toString();
    }

    private void act(int run, int which) {
        int a = some(6);
        int b = some(chance.nextInt(3) == 0 ? 9 : 4);
        call = "(" + a + ", " + b + ")";
        switch (which) {
            case 1: case 2: case 3: due(run, "day", x.day(), model.day()); break;
            case 4: case 5: due(run, "sea", x.sea(b), model.sea(b)); break;
            case 6: case 7: case 8: due(run, "let", x.let(a, b), model.let(a, b)); break;
            case 9: case 10: case 11: due(run, "turn", x.turn(a), model.turn(a)); break;
            case 12: due(run, "rake", x.rake(a), model.rake(a)); break;
            case 13: due(run, "undo", x.undo(), model.undo()); break;
            case 14: due(run, "keep", x.keep(b / 2), model.keep(b / 2)); break;
            default: due(run, "again", x.again(b / 2), model.again(b / 2)); break;
        }
    }

    private void ask(int run, int which) {
        int a = some(6);
        int b = some(12);
        int c = some(9);
        call = "(" + a + ", " + b + ", " + c + ")";
        switch (which) {
            case 16: case 17: due(run, "about", x.about(b), model.about(b)); break;
            case 18: case 19: due(run, "pan", x.pan(a, b / 2), model.pan(a, b / 2)); break;
            case 20: due(run, "find", x.find(c, b * 4, a % 2), model.find(c, b * 4, a % 2)); break;
            case 21: due(run, "salts", x.salts(a / 3), model.salts(a / 3)); break;
            case 22: due(run, "forget", x.forget(), model.forget()); break;
            default: due(run, "write", x.write(b * 25), model.write(b * 25)); break;
        }
    }

    private void askMore(int run, int which) {
        int a = some(6);
        int b = some(10);
        int c = some(31);
        int d = some(99);
        boolean upper = chance.nextBoolean();
        call = "(by " + a + ", " + b + ", " + c + ", " + d + ", " + upper + ")";
        switch (which) {
            case 24: case 25: due(run, "later", x.later(a, c, b / 3), model.later(a, c, b / 3)); break;
            case 26: due(run, "crust", x.crust(c), model.crust(c)); break;
            case 27: case 28: due(run, "ripe", x.ripe(a), model.ripe(a)); break;
            case 29: due(run, "best", x.best(b, a % 2), model.best(b, a % 2)); break;
            case 30: case 31: due(run, "gates", x.gates(b, d * 5), model.gates(b, d * 5)); break;
            case 32: case 33: judge(run); break;
            case 34: share(run, a, upper); break;
            case 35: case 36: due(run, "rests", x.rests(a, b / 2, c % 2), model.rests(a, b / 2, c % 2)); break;
            case 37: due(run, "clouds", x.clouds(a, c / 4, d, b, upper), model.clouds(a, c / 4, d, b, upper)); break;
            case 38: due(run, "years", x.years(c), model.years(c)); break;
            default:
                long v = chance.nextLong();
                due(run, "seed", x.seed(v), model.seed(v));
                break;
        }
    }

    private void judge(int run) {
        int n = 1 + chance.nextInt(4);
        long row = 0;
        for (int i = 0; i < n; i++) {
            int doing = chance.nextInt(chance.nextInt(8) == 0 ? 10 : 7);
            boolean hasPan = doing == 2 || doing > 4 || chance.nextInt(10) == 0;
            row = row * 1000 + doing * 100 + (hasPan ? chance.nextInt(6) * 10 : 0) + (doing == 0 ? 0 : chance.nextInt(5));
        }
        if (chance.nextInt(10) == 0) {
            n = some(5);
        }
        call = "(" + n + ", " + row + ")";
        due(run, "judge", x.judge(n, row), model.judge(n, row));
    }

    /** The model tries every order: dear with many pans, so not always asked. */
    private void share(int run, int pan, boolean upper) {
        if (model.about(0) < 5 || chance.nextInt(6) == 0) {
            due(run, "share", x.share(pan, upper), model.share(pan, upper));
        }
    }
}
