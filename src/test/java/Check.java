/** What the project's tests share: answers that are due, and objects made from a text. */
final class Check {
    private static int wrong = 0;
    private static int looked = 0;

    private Check() {
    }

    static void due(String call, long got, long want) {
        looked++;
        if (got != want) {
            wrong++;
            System.out.println(call + " answered " + got + ", due is " + want);
        }
    }

    static void end() {
        System.out.println(looked + " answers, " + wrong + " not as due");
        if (wrong != 0) {
            System.exit(1);
        }
    }

    static void write(BrinePans x, String text) {
        x.wipe();
        for (int i = 0; i < text.length(); i++) {
            x.write(text.charAt(i));
        }
    }

    static BrinePans made(String text) {
        BrinePans x = new BrinePans();
        write(x, text);
        due("marsh of " + text, x.marsh() < 0 ? 1 : 0, 0);
        return x;
    }

    static void dueWater(String when, BrinePans x, int... want) {
        for (int i = 0; i < want.length; i++) {
            due(when + ": water of pan " + i, x.pan(i, 1), want[i]);
        }
    }

    static void dueSalt(String when, BrinePans x, int... want) {
        for (int i = 0; i < want.length; i++) {
            due(when + ": salt of pan " + i, x.pan(i, 2), want[i]);
        }
    }

    /** All that can be seen of an object without changing it, as one text. */
    static String seen(BrinePans x) {
        StringBuilder all = new StringBuilder();
        for (int what = 0; what <= 12; what++) {
            all.append(x.about(what)).append(' ');
        }
        for (int pan = 0; pan < 6; pan++) {
            for (int what = 0; what <= 5; what++) {
                all.append(x.pan(pan, what)).append(' ');
            }
        }
        all.append(x.fault()).append(' ').append(x.salts(0)).append(' ').append(x.salts(1));
        long seed = x.seed(0);
        x.seed(seed);
        return all.append(' ').append(seed).toString();
    }
}
