/** Promise 14, later: one test for each boundary that the document names. */
public final class Promise14Test {
    public static void main(String[] args) {
        unknown();
        days();
        what();
        unknownBeforeBad();
        in0Days();
        fromThisDayOn();
        nothingElseBeingDone();
        nothingIsChanged();
        Check.end();
    }

    /** 7 inches and 92 of salt; the sun takes an inch on every fifth day. */
    private static Check.Lead seven() {
        return Check.marsh("MN169S0S0S0S0S1").then(x -> x.sea(1));
    }

    private static void dueLater(BrinePans x, int pan, int n, int water, int salt, int crust) {
        String call = "later(" + pan + ", " + n + ", ";
        Check.due(call + "0)", x.later(pan, n, 0), water);
        Check.due(call + "1)", x.later(pan, n, 1), salt);
        Check.due(call + "2)", x.later(pan, n, 2), crust);
    }

    private static void unknown() {
        Check.sentence("promise 14, UNKNOWN");
        Check.Lead lead = Check.marsh("MN021N035S1");
        for (int pan : new int[] {-1, 2, 6, Integer.MIN_VALUE, Integer.MAX_VALUE}) {
            Check.refused("later(" + pan + ", 1, 0)", lead, x -> x.later(pan, 1, 0), BrinePans.UNKNOWN);
        }
        dueLater(Check.after(lead), 0, 1, 1, 10, 2);
        dueLater(Check.after(lead), 1, 1, 2, 50, 34);
        Check.due("no pan", new BrinePans().later(0, 0, 0), BrinePans.UNKNOWN);
    }

    private static void days() {
        Check.sentence("promise 14, IN n DAYS (0 .. 30); BAD: n");
        BrinePans x = Check.after(seven());
        dueLater(x, 0, 0, 7, 92, 36);
        dueLater(x, 0, 29, 2, 92, 76);
        dueLater(x, 0, 30, 1, 92, 84);
        for (int n : new int[] {-1, 31, Integer.MIN_VALUE, Integer.MAX_VALUE}) {
            Check.refused("later(0, " + n + ", 0)", seven(), y -> y.later(0, n, 0), BrinePans.BAD);
        }
    }

    private static void what() {
        Check.sentence("promise 14, what = 0 .. 2; BAD: what");
        for (int what : new int[] {-1, 3, Integer.MIN_VALUE, Integer.MAX_VALUE}) {
            Check.refused("later(0, 1, " + what + ")", seven(), x -> x.later(0, 1, what), BrinePans.BAD);
        }
    }

    private static void unknownBeforeBad() {
        Check.sentence("promise 14, of UNKNOWN and BAD what is told first");
        Check.refused("later(1, 31, 0)", seven(), x -> x.later(1, 31, 0), BrinePans.UNKNOWN);
        Check.refused("later(-1, 0, 3)", seven(), x -> x.later(-1, 0, 3), BrinePans.UNKNOWN);
    }

    private static void in0Days() {
        Check.sentence("promise 14, IN 0 DAYS all is as it is");
        BrinePans x = Check.made("MN365N000S4");
        x.turn(0);
        dueLater(x, 0, 0, 6, 50, 2);
        dueLater(x, 1, 0, 0, 0, 0);
    }

    private static void fromThisDayOn() {
        Check.sentence("promise 14, DAYS are from now on, as skies come round");
        BrinePans x = Check.made("MN060S1R2S3");
        int[] want = {6, 5, 6, 3, 2, 4, 1, 0, 2, 0};
        for (int day = 0; day < want.length; day++) {
            for (int n = 0; day + n < want.length; n++) {
                Check.due("from day " + day + ", in " + n, x.later(0, n, 0), want[day + n]);
            }
            x.day();
        }
    }

    private static void nothingElseBeingDone() {
        Check.sentence("promise 14, nothing else being done: GATES stay, and are open or shut");
        BrinePans x = Check.made("MN065N000S1R4");
        dueLater(x, 1, 1, 0, 0, 0);
        x.turn(0);
        // 8 go on with an inch; then 5 and 1 inches are 4 and none
        dueLater(x, 0, 1, 4, 42, 10);
        dueLater(x, 1, 1, 0, 8, 8);
        dueLater(x, 0, 2, 6, 34, 0);
        dueLater(x, 1, 2, 5, 16, 0);
    }

    private static void nothingIsChanged() {
        Check.sentence("promise 14, nothing is changed");
        Check.Lead lead = Check.marsh("MN365N121S1R4").then(x -> {
            x.turn(0);
            x.sea(1);
            x.keep(1);
            x.day();
        });
        Check.changesNothing("later(1, 30, 2)", lead, x -> x.later(1, 30, 2));
        Check.changesNothing("later(0, 0, 0)", lead, x -> x.later(0, 0, 0));
    }
}
