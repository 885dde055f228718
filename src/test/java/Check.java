/** What the project's tests share: answers that are due, objects led to a place, calls that change nothing. */
final class Check {
    /** Calls that lead a new object to the place where a test begins. */
    interface Lead {
        void on(BrinePans x);

        default Lead then(Lead more) {
            return x -> {
                on(x);
                more.on(x);
            };
        }
    }

    interface Call {
        long on(BrinePans x);
    }

    private interface Look {
        String at(BrinePans x);
    }

    private static final Look[] LOOKS = {Check::seen, Check::undone, Check::goneOn, Check::toldAnew};

    private static int wrong = 0;
    private static int looked = 0;
    private static String sentence = "";

    private Check() {
    }

    /** The words of the document that the answers from here on are about. */
    static void sentence(String words) {
        sentence = words + ": ";
    }

    static void due(String call, long got, long want) {
        dueText(call, Long.toString(got), Long.toString(want));
    }

    static void dueText(String call, String got, String want) {
        looked++;
        if (!got.equals(want)) {
            wrong++;
            System.out.println(sentence + call + " answered " + got + ", due is " + want);
        }
    }

    static void end() {
        System.out.println(looked + " answers, " + wrong + " not as due");
        if (wrong != 0) {
            System.exit(1);
        }
    }

    static void write(BrinePans x, String text) {
        x.wipe();
        for (int i = 0; i < text.length(); i++) {
            x.write(text.charAt(i));
        }
    }

    static BrinePans made(String text) {
        BrinePans x = new BrinePans();
        write(x, text);
        due("marsh of " + text, x.marsh() < 0 ? 1 : 0, 0);
        return x;
    }

    static Lead nothing() {
        return x -> { };
    }

    static Lead written(String text) {
        return x -> write(x, text);
    }

    static Lead marsh(String text) {
        return x -> {
            write(x, text);
            x.marsh();
        };
    }

    static BrinePans after(Lead lead) {
        BrinePans x = new BrinePans();
        lead.on(x);
        return x;
    }

    /** A refused call has its answer, and then nothing can tell its object from one without the call. */
    static void refused(String call, Lead lead, Call refused, long want) {
        due(call, refused.on(after(lead)), want);
        changesNothing(call, lead, refused);
    }

    /** Each look has objects of its own: a look spends calls, and an object has 512. */
    static void changesNothing(String call, Lead lead, Call asked) {
        for (Look look : LOOKS) {
            BrinePans x = after(lead);
            asked.on(x);
            dueText("behind " + call, look.at(x), look.at(after(lead)));
        }
    }

    static void dueWater(String when, BrinePans x, int... want) {
        for (int i = 0; i < want.length; i++) {
            due(when + ": water of pan " + i, x.pan(i, 1), want[i]);
        }
    }

    static void dueSalt(String when, BrinePans x, int... want) {
        for (int i = 0; i < want.length; i++) {
            due(when + ": salt of pan " + i, x.pan(i, 2), want[i]);
        }
    }

    /** All that can be seen of an object without changing it, as one text. */
    static String seen(BrinePans x) {
        StringBuilder all = new StringBuilder();
        for (int what = 0; what <= 12; what++) {
            all.append(x.about(what)).append(' ');
        }
        for (int pan = 0; pan < 6; pan++) {
            for (int what = 0; what <= 5; what++) {
                all.append(x.pan(pan, what)).append(' ');
            }
        }
        all.append(x.fault()).append(' ').append(x.salts(0)).append(' ').append(x.salts(1));
        long seed = x.seed(0);
        x.seed(seed);
        return all.append(' ').append(seed).toString();
    }

    /** What a slot keeps: water, salt, gates, the heap, the day. */
    static String held(BrinePans x) {
        StringBuilder all = new StringBuilder();
        int pans = x.about(0);
        for (int pan = 0; pan < pans; pan++) {
            all.append(x.pan(pan, 1)).append(' ').append(x.pan(pan, 2)).append(' ');
        }
        return all.append(x.about(4)).append(' ').append(x.about(5)).append(' ').append(x.about(2)).toString();
    }

    /** The row of acts: how all stands when they are undone one by one, until there is none. */
    private static String undone(BrinePans x) {
        StringBuilder all = new StringBuilder();
        int left = 1;
        for (int i = 0; i < 16 && left >= 0; i++) {
            left = x.undo();
            all.append(left).append(": ").append(held(x)).append("; ");
        }
        return all.toString();
    }

    /** The slots, and the skies: five days from each slot. */
    private static String goneOn(BrinePans x) {
        StringBuilder all = new StringBuilder();
        for (int slot = 0; slot <= 1; slot++) {
            all.append(x.again(slot)).append(": ").append(held(x)).append("; ");
            for (int i = 0; i < 5; i++) {
                all.append(x.about(3)).append(' ').append(x.day()).append(' ');
            }
        }
        return all.append(held(x)).toString();
    }

    /** The bytes of the text: what comes of them as a marsh. */
    private static String toldAnew(BrinePans x) {
        StringBuilder all = new StringBuilder();
        all.append(x.fault()).append(' ').append(x.marsh()).append(": ").append(seen(x)).append("; ");
        for (int i = 0; i < 5; i++) {
            all.append(x.about(3)).append(' ').append(x.day()).append(' ');
        }
        return all.append(held(x)).toString();
    }
}
