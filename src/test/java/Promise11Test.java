/** Promise 11, turn: one test for each boundary that the document names. */
public final class Promise11Test {
    public static void main(String[] args) {
        unknown();
        openOrShut();
        oneGateAlone();
        isAnAct();
        Check.end();
    }

    private static void unknown() {
        Check.sentence("promise 11, UNKNOWN: the last PAN has no GATE");
        Check.Lead lead = Check.marsh("MN010N010N010").then(x -> x.turn(1));
        for (int gate : new int[] {-1, 2, 3, 31, 32, 33, Integer.MIN_VALUE, Integer.MAX_VALUE}) {
            Check.refused("turn(" + gate + ")", lead, x -> x.turn(gate), BrinePans.UNKNOWN);
        }
        Check.due("the first", Check.after(lead).turn(0), 1);
        Check.due("the last", Check.after(lead).turn(1), 0);
        Check.due("one pan", Check.made("MN010").turn(0), BrinePans.UNKNOWN);
        Check.due("no pan", new BrinePans().turn(0), BrinePans.UNKNOWN);
        BrinePans six = Check.made("M" + "N010".repeat(6));
        Check.due("the last of six pans", six.turn(5), BrinePans.UNKNOWN);
        Check.due("the fifth of six pans", six.turn(4), 1);
    }

    private static void openOrShut() {
        Check.sentence("promise 11, 1 if it is open then, 0");
        BrinePans x = Check.made("MN010N010");
        for (int i = 0; i < 5; i++) {
            Check.due("turn(0)", x.turn(0), i % 2 == 0 ? 1 : 0);
            Check.due("about(4)", x.about(4), i % 2 == 0 ? 1 : 0);
        }
    }

    private static void oneGateAlone() {
        Check.sentence("promise 11, no other GATE is turned");
        BrinePans x = Check.made("M" + "N010".repeat(6));
        int open = 0;
        for (int gate : new int[] {3, 0, 4, 3, 1, 2, 0}) {
            open ^= 1 << gate;
            x.turn(gate);
            Check.due("turn(" + gate + ")", x.about(4), open);
        }
        Check.dueWater("nothing flows before a day", x, 1, 1, 1, 1, 1, 1);
    }

    private static void isAnAct() {
        Check.sentence("promise 11, TURNED is an ACT");
        BrinePans x = Check.made("MN010N010");
        x.turn(0);
        x.turn(0);
        Check.due("acts", x.about(10), 2);
        Check.due("undo()", x.undo(), 1);
        Check.due("open", x.about(4), 1);
        Check.due("undo()", x.undo(), 0);
        Check.due("shut", x.about(4), 0);
    }
}
