/** Promises 1 to 7: a new object, the text and its fault, the marsh and what is told of it. */
public final class MarshTest {
    private static final String SIX_PANS = "MN000N000N000N000N000N000";
    private static final String FIVE_SKIES = "MS0R1S0R1S0";

    public static void main(String[] args) {
        newObject();
        writeAndWipe();
        faults();
        marsh();
        marshAnew();
        about();
        pan();
        Check.end();
    }

    private static void newObject() {
        BrinePans x = new BrinePans();
        for (int what = 0; what <= 12; what++) {
            Check.due("new: about(" + what + ")", x.about(what), 0);
        }
        Check.due("new: fault()", x.fault(), 0);
        Check.due("new: pan(0, 0)", x.pan(0, 0), BrinePans.UNKNOWN);
        Check.due("new: undo()", x.undo(), BrinePans.LATE);
        Check.due("new: again(0)", x.again(0), BrinePans.LATE);
        Check.due("new: again(1)", x.again(1), BrinePans.LATE);
        Check.due("new: salts(0)", x.salts(0), 100);
        Check.due("new: seed(0)", x.seed(0), 0);
    }

    private static void writeAndWipe() {
        BrinePans x = new BrinePans();
        Check.due("write(-1)", x.write(-1), BrinePans.BAD);
        Check.due("write(256)", x.write(256), BrinePans.BAD);
        Check.due("write(least)", x.write(Integer.MIN_VALUE), BrinePans.BAD);
        Check.due("write(most)", x.write(Integer.MAX_VALUE), BrinePans.BAD);
        Check.due("no byte came", x.about(12), 0);
        Check.due("write(0)", x.write(0), 1);
        Check.due("write(255)", x.write(255), 2);
        for (int i = 3; i <= 36; i++) {
            Check.due("write up to 36", x.write('M'), i);
        }
        Check.due("write the 37th", x.write('M'), BrinePans.FULL);
        Check.due("write a bad 37th", x.write(256), BrinePans.BAD);
        Check.due("36 bytes", x.about(12), 36);
        Check.due("wipe of 36", x.wipe(), 36);
        Check.due("wipe of 0", x.wipe(), 0);
        Check.due("write behind a wipe", x.write('M'), 1);
    }

    private static void faults() {
        int none = BrinePans.NONE;
        dueFault("", 0);
        dueFault("M", none);
        dueFault("m", 0);
        dueFault("N000", 0);
        dueFault("MM", 1);
        dueFault("MX", 1);
        dueFault("M0", 1);
        dueFault("MN", 2);
        dueFault("MN3", 3);
        dueFault("MN4", 2);
        dueFault("MN/", 2);
        dueFault("MN06", 4);
        dueFault("MN07", 3);
        dueFault("MN0/", 3);
        dueFault("MN160", none);
        dueFault("MN170", 3);
        dueFault("MN069", none);
        dueFault("MN06:", 4);
        dueFault("MN06/", 4);
        dueFault("MNS", 2);
        dueFault("MN069N", 6);
        dueFault("MN069x", 5);
        dueFault("MS", 2);
        dueFault("MS0", none);
        dueFault("MS4", none);
        dueFault("MS5", 2);
        dueFault("MS/", 2);
        dueFault("MR", 2);
        dueFault("MR0", 2);
        dueFault("MR1", none);
        dueFault("MR4", none);
        dueFault("MR5", 2);
        dueFault("MR1N000S0", none);
        dueFault("MXN9S9", 1);
        dueFault(SIX_PANS, none);
        dueFault(SIX_PANS + "N", 25);
        dueFault(SIX_PANS + "N000", 25);
        dueFault(SIX_PANS + "S", 26);
        dueFault(FIVE_SKIES, none);
        dueFault(FIVE_SKIES + "S", 11);
        dueFault(FIVE_SKIES + "R1", 11);
        dueFault(FIVE_SKIES + "N", 12);
        dueFault(SIX_PANS + "S0R1S0R1S0", none);
        dueFault(SIX_PANS + "S0R1S0R1S0S", 35);
    }

    private static void dueFault(String text, int want) {
        BrinePans x = new BrinePans();
        Check.write(x, text);
        Check.due("fault of " + text, x.fault(), want);
        String before = Check.seen(x);
        int marsh = x.marsh();
        if (want == BrinePans.NONE) {
            Check.due("marsh of " + text + " is one", marsh >= 0 ? 1 : 0, 1);
        } else {
            Check.due("marsh of " + text, marsh, BrinePans.LATE);
            Check.due("nothing changed by " + text, Check.seen(x).equals(before) ? 1 : 0, 1);
        }
    }

    private static void marsh() {
        BrinePans x = new BrinePans();
        Check.write(x, "M");
        Check.due("marsh of M", x.marsh(), 0);
        Check.write(x, "MR2N123S4N316");
        Check.due("marsh of two and two", x.marsh(), 22);
        Check.due("kind of 0", x.pan(0, 0), 1);
        Check.due("kind of 1", x.pan(1, 0), 3);
        Check.dueWater("told", x, 2, 1);
        Check.dueSalt("told", x, 30, 60);
        Check.due("the first sky", x.about(3), -2);
        x.day();
        Check.due("the second sky", x.about(3), 4);
        Check.write(x, SIX_PANS + "S0R1S0R1S0");
        Check.due("marsh of six and five", x.marsh(), 65);
    }

    private static void marshAnew() {
        BrinePans x = Check.made("MN019N060S1");
        x.find(1, 2, 1);
        x.seed(77);
        x.turn(0);
        x.rake(0);
        x.day();
        x.keep(0);
        x.keep(1);
        Check.due("LATE with a fault", lateMarsh(x), BrinePans.LATE);
        Check.due("acts stay when it is LATE", x.about(10), 3);
        Check.due("what is kept stays when it is LATE", x.again(0), 1);
        Check.write(x, "MN026");
        Check.due("marsh anew", x.marsh(), 10);
        Check.due("no day", x.about(2), 0);
        Check.due("no open gate", x.about(4), 0);
        Check.due("no heap", x.about(5), 0);
        Check.due("no acts", x.about(10), 0);
        Check.due("nothing to undo", x.undo(), BrinePans.LATE);
        Check.due("found stays", x.about(11), 1);
        Check.due("slot 0 is gone", x.again(0), BrinePans.LATE);
        Check.due("slot 1 is gone", x.again(1), BrinePans.LATE);
        Check.due("the text stays", x.about(12), 5);
        Check.due("the marsh stays behind a wipe", x.wipe() + x.pan(0, 2), 65);
        Check.due("the seed stays", x.seed(0), 77);
        x = Check.made("MN019N060S1");
        x.day();
        x.turn(0);
        Check.due("the same marsh anew", x.marsh(), 21);
        Check.due("no acts", x.about(10), 0);
        Check.due("nothing to undo", x.undo(), BrinePans.LATE);
        Check.dueWater("as told", x, 1, 6);
        Check.write(x, "M");
        Check.due("a marsh of nothing", x.marsh(), 0);
        Check.due("no pan", x.pan(0, 1), BrinePans.UNKNOWN);
        Check.due("no gate", x.turn(0), BrinePans.UNKNOWN);
        Check.due("no crust", x.about(8) + x.about(6) + x.about(7) + x.about(9), 0);
    }

    private static int lateMarsh(BrinePans x) {
        x.write('X');
        return x.marsh();
    }

    private static void about() {
        BrinePans x = Check.made("MN019N126N003N021S3R4");
        // crusts: 90 - 8, 60 - 16, 30, 0; raked can be 0 and 2
        int[] want = {4, 2, 0, 3, 0, 0, 5, 190, 156, 5, 0, 0, 21};
        for (int what = 0; what < want.length; what++) {
            Check.due("about(" + what + ")", x.about(what), want[what]);
        }
        x.turn(2);
        x.turn(0);
        x.rake(2);
        x.find(0, 0, 1);
        x.find(0, 0, 1);
        Check.due("open gates", x.about(4), 5);
        Check.due("the heap", x.about(5), 30);
        Check.due("acts", x.about(10), 3);
        Check.due("found", x.about(11), 2);
        x.day();
        Check.due("the day", x.about(2), 1);
        Check.due("rain is told below 0", x.about(3), -4);
        x.day();
        Check.due("skies come round", x.about(3), 3);
        Check.due("about(-1)", x.about(-1), BrinePans.BAD);
        Check.due("about(13)", x.about(13), BrinePans.BAD);
        Check.due("about(least)", x.about(Integer.MIN_VALUE), BrinePans.BAD);
    }

    private static void pan() {
        BrinePans x = Check.made("MN035N149N261N304");
        duePan(x, 0, 0, 3, 50, 24, 26, 3);
        duePan(x, 1, 1, 4, 90, 32, 58, 5);
        duePan(x, 2, 2, 6, 10, 10, 0, 0);
        duePan(x, 3, 3, 0, 40, 0, 40, 6);
        Check.due("pan(-1, 0)", x.pan(-1, 0), BrinePans.UNKNOWN);
        Check.due("pan(4, 0)", x.pan(4, 0), BrinePans.UNKNOWN);
        Check.due("pan(4, 9)", x.pan(4, 9), BrinePans.UNKNOWN);
        Check.due("pan(most, -1)", x.pan(Integer.MAX_VALUE, -1), BrinePans.UNKNOWN);
        Check.due("pan(0, 6)", x.pan(0, 6), BrinePans.BAD);
        Check.due("pan(0, -1)", x.pan(0, -1), BrinePans.BAD);
    }

    private static void duePan(BrinePans x, int pan, int... want) {
        for (int what = 0; what < want.length; what++) {
            Check.due("pan(" + pan + ", " + what + ")", x.pan(pan, what), want[what]);
        }
    }
}
