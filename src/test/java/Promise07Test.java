/** Promise 7, pan: one test for each boundary that the document names. */
public final class Promise07Test {
    public static void main(String[] args) {
        unknown();
        bad();
        unknownBeforeBad();
        brineAndCrust();
        room();
        Check.end();
    }

    private static void unknown() {
        Check.sentence("promise 7, UNKNOWN");
        Check.Lead lead = Check.marsh("MN000N100N200N300N000N100");
        for (int pan : new int[] {-1, 6, 7, 32, Integer.MIN_VALUE, Integer.MAX_VALUE}) {
            Check.refused("pan(" + pan + ", 1)", lead, x -> x.pan(pan, 1), BrinePans.UNKNOWN);
        }
        Check.due("the first", Check.after(lead).pan(0, 0), 0);
        Check.due("the last", Check.after(lead).pan(5, 0), 1);
        Check.due("behind the last of two", Check.made("MN000N000").pan(2, 0), BrinePans.UNKNOWN);
        Check.due("no pan", new BrinePans().pan(0, 0), BrinePans.UNKNOWN);
    }

    private static void bad() {
        Check.sentence("promise 7, what = 0 .. 5; BAD");
        Check.Lead lead = Check.marsh("MN000N135");
        for (int what : new int[] {-1, 6, Integer.MIN_VALUE, Integer.MAX_VALUE}) {
            Check.refused("pan(1, " + what + ")", lead, x -> x.pan(1, what), BrinePans.BAD);
        }
        int[] want = {1, 3, 50, 24, 26, 6};
        for (int what = 0; what <= 5; what++) {
            Check.due("pan(1, " + what + ")", Check.after(lead).pan(1, what), want[what]);
        }
    }

    private static void unknownBeforeBad() {
        Check.sentence("promise 7, of UNKNOWN and BAD what is told first");
        Check.Lead lead = Check.marsh("MN000");
        Check.refused("pan(1, 6)", lead, x -> x.pan(1, 6), BrinePans.UNKNOWN);
        Check.refused("pan(-1, -1)", lead, x -> x.pan(-1, -1), BrinePans.UNKNOWN);
    }

    private static void brineAndCrust() {
        Check.sentence("promise 7, as much is BRINE as 8 times its WATER, or all, if that is less; the rest is CRUST");
        dueBrine(Check.made("MN053"), 0, 30, 0);
        dueBrine(Check.made("MN054"), 0, 40, 0);
        dueBrine(Check.made("MN055"), 0, 40, 10);
        dueBrine(Check.made("MN000"), 0, 0, 0);
        dueBrine(Check.made("MN001"), 0, 0, 10);
        dueBrine(Check.made("MN060"), 0, 0, 0);
        dueBrine(Check.made("MN069"), 0, 48, 42);
        BrinePans x = Check.made("MN011N000");
        x.let(0, 1);
        dueBrine(x, 1, 8, 0);
        x = Check.made("MN041N000S3");
        x.sea(2);
        x.let(0, 4);
        x.day();
        dueBrine(x, 1, 8, 1);
        x = Check.made("MN169");
        x.sea(3);
        dueBrine(x, 0, 72, 24);
    }

    private static void dueBrine(BrinePans x, int pan, int brine, int crust) {
        String held = " at " + x.pan(pan, 1) + " inches and " + x.pan(pan, 2);
        Check.due("brine" + held, x.pan(pan, 3), brine);
        Check.due("crust" + held, x.pan(pan, 4), crust);
    }

    private static void room() {
        Check.sentence("promise 7, a PAN holds 6 inches of WATER at most, a DEEP one 9");
        int[] depth = {6, 9, 6, 6};
        for (int kind = 0; kind <= 3; kind++) {
            Check.due("room of an empty one of kind " + kind, Check.made("MN" + kind + "00").pan(0, 5), depth[kind]);
            Check.due("of one with 6 inches", Check.made("MN" + kind + "60").pan(0, 5), depth[kind] - 6);
            BrinePans x = Check.made("MN" + kind + "00");
            x.sea(depth[kind]);
            Check.due("of a full one", x.pan(0, 5), 0);
            Check.due("its water", x.pan(0, 1), depth[kind]);
        }
    }
}
