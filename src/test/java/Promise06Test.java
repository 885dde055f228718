/** Promise 6, about: one test for each boundary that the document names. */
public final class Promise06Test {
    private static final String SIX = "MN069N069N069N069N069N069";

    public static void main(String[] args) {
        bad();
        pansAndSkies();
        theDay();
        theSky();
        openGates();
        theHeap();
        sums();
        canBeRaked();
        acts();
        found();
        bytes();
        Check.end();
    }

    private static void bad() {
        Check.sentence("promise 6, what = 0 .. 12; BAD");
        Check.Lead lead = Check.marsh("MN019N126S3");
        for (int what : new int[] {-1, 13, 14, Integer.MIN_VALUE, Integer.MAX_VALUE}) {
            Check.refused("about(" + what + ")", lead, x -> x.about(what), BrinePans.BAD);
        }
        int[] want = {2, 1, 0, 3, 0, 0, 3, 150, 126, 1, 0, 0, 11};
        for (int what = 0; what <= 12; what++) {
            Check.due("about(" + what + ")", Check.after(lead).about(what), want[what]);
        }
    }

    private static void pansAndSkies() {
        Check.sentence("promise 6, PANS (0), SKIES (1): none, and the most");
        BrinePans x = Check.made("M");
        Check.due("no pan", x.about(0), 0);
        Check.due("no sky", x.about(1), 0);
        x = Check.made(SIX + "S0S0S0R1R1");
        Check.due("six pans", x.about(0), 6);
        Check.due("five skies", x.about(1), 5);
    }

    private static void theDay() {
        Check.sentence("promise 6, THE DAY (2)");
        BrinePans x = Check.made("MN000N000S1");
        Check.due("at first", x.about(2), 0);
        x.turn(0);
        x.sea(1);
        Check.due("behind acts that are no days", x.about(2), 0);
        x.day();
        x.day();
        Check.due("behind two", x.about(2), 2);
    }

    private static void theSky() {
        Check.sentence("promise 6, THE SKY of THE DAY (3: SUN e; -r: RAIN r)");
        for (int e = 0; e <= 4; e++) {
            Check.due("a sun", Check.made("MS" + e).about(3), e);
        }
        for (int r = 1; r <= 4; r++) {
            Check.due("a rain", Check.made("MR" + r).about(3), -r);
        }
        BrinePans none = Check.made("MN000");
        Check.due("none: a sun of 0", none.about(3), 0);
        BrinePans x = Check.made("MS1S2R3S4R1");
        int[] want = {1, 2, -3, 4, -1, 1, 2, -3, 4, -1, 1};
        for (int day = 0; day < want.length; day++) {
            Check.due("day " + day, x.about(3), want[day]);
            x.day();
        }
    }

    private static void openGates() {
        Check.sentence("promise 6, GATES that are open (4: bits)");
        BrinePans x = Check.made(SIX);
        Check.due("none", x.about(4), 0);
        int open = 0;
        for (int gate = 4; gate >= 0; gate--) {
            x.turn(gate);
            open += 1 << gate;
            Check.due("gate " + gate, x.about(4), open);
        }
        Check.due("all", x.about(4), 31);
        x.turn(2);
        Check.due("all but one", x.about(4), 27);
    }

    private static void theHeap() {
        Check.sentence("promise 6, THE HEAP (5)");
        BrinePans x = Check.made("MN009N019");
        Check.due("at first", x.about(5), 0);
        x.rake(0);
        Check.due("behind one", x.about(5), 90);
        x.rake(1);
        Check.due("behind both", x.about(5), 172);
    }

    private static void sums() {
        Check.sentence("promise 6, WATER, SALT, CRUST of all (6, 7, 8)");
        BrinePans x = Check.made("M");
        Check.due("water of none", x.about(6), 0);
        Check.due("salt of none", x.about(7), 0);
        Check.due("crust of none", x.about(8), 0);
        x = Check.made(SIX);
        Check.due("water of six", x.about(6), 36);
        Check.due("salt of six", x.about(7), 540);
        Check.due("crust of six", x.about(8), 540 - 6 * 48);
        x = Check.made("MN000N000N000N000N000N011");
        Check.due("water of the last", x.about(6), 1);
        Check.due("salt of the last", x.about(7), 10);
        Check.due("crust of the last", x.about(8), 2);
    }

    private static void canBeRaked() {
        Check.sentence("promise 6, PANS that can be RAKED (9: bits)");
        Check.due("no pan", Check.made("M").about(9), 0);
        // at 0, 1 and 2 inches; without salt at 0 and at 1
        Check.due("by water", Check.made("MN009N019N029N000N010").about(9), 3);
        Check.due("all six", Check.made("MN009N019N209N319N109N119").about(9), 63);
        BrinePans x = Check.made("MN011N000");
        x.let(0, 1);
        // 2 lie in pan 0; 8 are in 1 inch in pan 1
        Check.due("all of it brine", x.about(9), 1);
        x = Check.made("MN041N000S3");
        x.sea(2);
        x.let(0, 4);
        x.day();
        // 9 in 1 inch in pan 1
        Check.due("1 of crust", x.about(9), 3);
        x.rake(0);
        Check.due("raked", x.about(9), 2);
    }

    private static void acts() {
        Check.sentence("promise 6, ACTS (10): 14 at most");
        BrinePans x = Check.made("MN000N000");
        for (int i = 0; i <= 16; i++) {
            Check.due("behind " + i, x.about(10), Math.min(i, 14));
            x.turn(0);
        }
        x.undo();
        Check.due("one undone", x.about(10), 13);
    }

    private static void found() {
        Check.sentence("promise 6, FOUND (11): 6 at most");
        BrinePans x = new BrinePans();
        for (int i = 0; i <= 8; i++) {
            Check.due("behind " + i, x.about(11), Math.min(i, 6));
            x.find(0, i, 1);
        }
        x.forget();
        Check.due("forgotten", x.about(11), 0);
    }

    private static void bytes() {
        Check.sentence("promise 6, bytes of THE TEXT (12): 36 at most");
        BrinePans x = new BrinePans();
        for (int i = 0; i <= 38; i++) {
            Check.due("behind " + i, x.about(12), Math.min(i, 36));
            x.write(i);
        }
        x.wipe();
        Check.due("wiped", x.about(12), 0);
    }
}
