/** Promise 25, clouds: one test for each boundary that the document names. */
public final class Promise25Test {
    public static void main(String[] args) {
        unknown();
        days();
        crust();
        tenths();
        unknownBeforeBad();
        always();
        never();
        leastTerms();
        byItself();
        aSunOf0();
        rainAsEver();
        noSky();
        fromNowOn();
        nothingIsChanged();
        Check.end();
    }

    private static void dueClouds(BrinePans x, int n, int v, int tenths, int above, int below) {
        String call = "clouds(0, " + n + ", " + v + ", " + tenths + ", ";
        Check.due(call + "true)", x.clouds(0, n, v, tenths, true), above);
        Check.due(call + "false)", x.clouds(0, n, v, tenths, false), below);
    }

    private static void refused(int pan, int n, int v, int tenths, int want) {
        String call = "clouds(" + pan + ", " + n + ", " + v + ", " + tenths + ", ..)";
        Check.Lead lead = Check.marsh("MN012N022S1");
        Check.refused(call, lead, x -> x.clouds(pan, n, v, tenths, true), want);
        Check.refused(call, lead, x -> x.clouds(pan, n, v, tenths, false), want);
    }

    private static void unknown() {
        Check.sentence("promise 25, UNKNOWN");
        for (int pan : new int[] {-1, 2, 6, Integer.MIN_VALUE, Integer.MAX_VALUE}) {
            refused(pan, 1, 0, 0, BrinePans.UNKNOWN);
        }
        BrinePans x = Check.made("MN012N022S1");
        Check.due("the first", x.clouds(0, 1, 20, 4, true), 3);
        // 2 inches, or 1: 4, or 12
        Check.due("the last", x.clouds(1, 1, 12, 4, true), 3);
        Check.due("the last", x.clouds(1, 1, 13, 4, true), 0);
        Check.due("no pan", new BrinePans().clouds(0, 1, 0, 0, true), BrinePans.UNKNOWN);
    }

    private static void days() {
        Check.sentence("promise 25, n DAYS (1 .. 6); BAD: n");
        for (int n : new int[] {0, 7, -1, Integer.MIN_VALUE, Integer.MAX_VALUE}) {
            refused(0, n, 0, 0, BrinePans.BAD);
        }
        for (int inches = 1; inches <= 6; inches++) {
            BrinePans x = Check.made("MN0" + inches + "9S1");
            for (int n = 1; n <= 6; n++) {
                dueClouds(x, n, 90, 0, n >= inches ? 1 : 0, 1);
            }
        }
    }

    private static void crust() {
        Check.sentence("promise 25, v (0 .. 99) of CRUST, or more; BAD: v");
        for (int v : new int[] {-1, 100, Integer.MIN_VALUE, Integer.MAX_VALUE}) {
            refused(0, 1, v, 0, BrinePans.BAD);
        }
        dueClouds(Check.made("MN010S1"), 1, 0, 5, 1, 1);
        dueClouds(Check.made("MN010S1"), 1, 1, 5, 0, 1);
        dueClouds(Check.made("MN012S1"), 1, 20, 0, 1, 1);
        dueClouds(Check.made("MN012S1"), 1, 21, 0, 0, 1);
        BrinePans x = Check.made("MN109S4");
        x.sea(4);
        dueClouds(x, 1, 98, 0, 1, 1);
        dueClouds(x, 1, 99, 0, 0, 1);
        x.sea(4);
        // 106 of salt in 8 inches
        dueClouds(x, 1, 74, 0, 1, 1);
        dueClouds(x, 1, 75, 0, 0, 1);
        dueClouds(x, 2, 99, 0, 1, 1);
    }

    private static void tenths() {
        Check.sentence("promise 25, by x tenths (0 .. 10); BAD: x");
        for (int tenths : new int[] {-1, 11, Integer.MIN_VALUE, Integer.MAX_VALUE}) {
            refused(0, 1, 0, tenths, BrinePans.BAD);
        }
        BrinePans x = Check.made("MN012S1");
        int[] above = {1, 9, 4, 7, 3, 1, 2, 3, 1, 1, 0};
        int[] below = {1, 10, 5, 10, 5, 2, 5, 10, 5, 10, 1};
        for (int tenths = 0; tenths <= 10; tenths++) {
            dueClouds(x, 1, 20, tenths, above[tenths], below[tenths]);
        }
    }

    private static void unknownBeforeBad() {
        Check.sentence("promise 25, of UNKNOWN and BAD what is told first");
        refused(2, 0, 0, 0, BrinePans.UNKNOWN);
        refused(2, 1, 100, 0, BrinePans.UNKNOWN);
        refused(-1, 1, 0, 11, BrinePans.UNKNOWN);
    }

    private static void always() {
        Check.sentence("promise 25, a FRACTION of 1");
        BrinePans x = Check.made("MN012S1");
        dueClouds(x, 6, 0, 9, 1, 1);
        dueClouds(x, 6, 12, 9, 1, 1);
        dueClouds(x, 6, 20, 0, 1, 1);
    }

    private static void never() {
        Check.sentence("promise 25, a FRACTION of 0");
        BrinePans x = Check.made("MN012S1");
        dueClouds(x, 6, 21, 9, 0, 1);
        dueClouds(x, 6, 13, 10, 0, 1);
    }

    private static void leastTerms() {
        Check.sentence("promise 25, a FRACTION in least terms");
        // no sun at all: 531441 of 1000000, and 64 of 15625
        dueClouds(Check.made("MN012S1"), 6, 20, 9, 468559, 1000000);
        dueClouds(Check.made("MN012S1"), 6, 20, 4, 15561, 15625);
        dueClouds(Check.made("MN012S1"), 2, 20, 5, 3, 4);
    }

    private static void byItself() {
        Check.sentence("promise 25, in each of n DAYS, by itself");
        BrinePans x = Check.made("MN022S1");
        // two suns, of two or of three
        dueClouds(x, 2, 20, 3, 49, 100);
        dueClouds(x, 3, 20, 5, 1, 2);
        dueClouds(x, 3, 20, 4, 81, 125);
        // one sun or more
        dueClouds(x, 2, 12, 3, 91, 100);
    }

    private static void aSunOf0() {
        Check.sentence("promise 25, a SUN is one of 0: a DARK one loses nothing");
        BrinePans x = Check.made("MN222S1");
        dueClouds(x, 1, 4, 10, 1, 1);
        dueClouds(x, 1, 5, 10, 0, 1);
        dueClouds(x, 1, 20, 4, 3, 5);
        // it leaks, whatever the sun is: 6 of 20
        dueClouds(Check.made("MN332S2"), 1, 14, 10, 0, 1);
        dueClouds(Check.made("MN332S2"), 1, 14, 0, 1, 1);
        dueClouds(Check.made("MN332S2"), 1, 15, 0, 0, 1);
    }

    private static void rainAsEver() {
        Check.sentence("promise 25, RAIN as ever");
        BrinePans x = Check.made("MN012R1");
        dueClouds(x, 1, 4, 10, 1, 1);
        dueClouds(x, 1, 5, 10, 0, 1);
        dueClouds(x, 1, 5, 0, 0, 1);
        // 2 inches behind the rain, and none behind a sun of 2
        dueClouds(Check.made("MN012R1S2"), 2, 20, 4, 3, 5);
    }

    private static void noSky() {
        Check.sentence("promise 25, none: a SUN of 0");
        BrinePans x = Check.made("MN012");
        dueClouds(x, 6, 12, 7, 1, 1);
        dueClouds(x, 6, 13, 7, 0, 1);
    }

    private static void fromNowOn() {
        Check.sentence("promise 25, from now on, and GATES are as they are");
        BrinePans x = Check.made("MN012S0S1");
        dueClouds(x, 1, 20, 4, 0, 1);
        dueClouds(x, 2, 20, 4, 3, 5);
        x.day();
        dueClouds(x, 1, 20, 4, 3, 5);
        dueClouds(x, 2, 20, 4, 3, 5);
        dueClouds(x, 3, 20, 4, 21, 25);
        x = Check.made("MN012N000S1");
        x.turn(0);
        dueClouds(x, 1, 12, 5, 1, 1);
        dueClouds(x, 1, 13, 5, 0, 1);
    }

    private static void nothingIsChanged() {
        Check.sentence("promise 25, nothing is changed");
        Check.Lead lead = Check.marsh("MN365N121N204S1R4").then(x -> {
            x.turn(0);
            x.keep(0);
            x.day();
        });
        Check.changesNothing("clouds(1, 6, 20, 5, true)", lead, x -> x.clouds(1, 6, 20, 5, true));
        Check.changesNothing("clouds(0, 1, 0, 0, false)", lead, x -> x.clouds(0, 1, 0, 0, false));
    }
}
