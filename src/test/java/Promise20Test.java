/** Promise 20, share: one test for each boundary that the document names. */
public final class Promise20Test {
    public static void main(String[] args) {
        unknown();
        onePan();
        lessThan0();
        leastTerms();
        nothingAtAll();
        neitherWaterNorSalt();
        gatesAsTheyAre();
        behindFourDays();
        sixPans();
        nothingIsChanged();
        Check.end();
    }

    private static void dueShare(BrinePans x, int pan, int above, int below) {
        Check.due("share(" + pan + ", true)", x.share(pan, true), above);
        Check.due("share(" + pan + ", false)", x.share(pan, false), below);
    }

    private static void unknown() {
        Check.sentence("promise 20, UNKNOWN");
        Check.Lead lead = Check.marsh("MN001N002S1");
        for (int pan : new int[] {-1, 2, 6, 32, Integer.MIN_VALUE, Integer.MAX_VALUE}) {
            Check.refused("share(" + pan + ", true)", lead, x -> x.share(pan, true), BrinePans.UNKNOWN);
            Check.refused("share(" + pan + ", false)", lead, x -> x.share(pan, false), BrinePans.UNKNOWN);
        }
        dueShare(Check.after(lead), 0, 10, 1);
        dueShare(Check.after(lead), 1, 20, 1);
        Check.due("no pan", new BrinePans().share(0, true), BrinePans.UNKNOWN);
    }

    private static void onePan() {
        Check.sentence("promise 20, one PAN has all");
        dueShare(Check.made("MN069S1S1S1S0"), 0, 66, 1);
    }

    private static void lessThan0() {
        Check.sentence("promise 20, told above; less than 0, if they are");
        BrinePans x = Check.made("MN060N004");
        x.turn(0);
        // pan 1 alone 40; with 4 inches from pan 0 it has 8
        dueShare(x, 0, -16, 1);
        dueShare(x, 1, 24, 1);
    }

    private static void leastTerms() {
        Check.sentence("promise 20, a FRACTION in least terms");
        BrinePans x = Check.made("MN010N001N001");
        x.turn(0);
        x.turn(1);
        // by sets: pan 1 10, pan 2 10, 0 and 1 2, 0 and 2 2, 1 and 2 20, all 12
        dueShare(x, 0, -16, 3);
        dueShare(x, 1, 26, 3);
        dueShare(x, 2, 26, 3);
        x = Check.made("MN010N001");
        x.turn(0);
        // pan 1 alone 10, with pan 0 2: halves that are whole
        dueShare(x, 0, -4, 1);
        dueShare(x, 1, 6, 1);
        x = Check.made("MN162N004");
        x.sea(3);
        x.turn(0);
        // 2, 3, 3, 3 of salt go on with an inch each: pan 1 alone 40, with pan 0 51 less 32
        dueShare(x, 0, -21, 2);
        dueShare(x, 1, 59, 2);
    }

    private static void nothingAtAll() {
        Check.sentence("promise 20, a FRACTION of 0");
        dueShare(Check.made("MN000"), 0, 0, 1);
        dueShare(Check.made("MN060N000N000N000N000N009"), 0, 0, 1);
        dueShare(Check.made("MN060N000N000N000N000N009"), 5, 90, 1);
    }

    private static void neitherWaterNorSalt() {
        Check.sentence("promise 20, others have neither WATER nor SALT to begin with");
        BrinePans x = Check.made("MN005N069N002");
        dueShare(x, 0, 50, 1);
        dueShare(x, 1, 42, 1);
        dueShare(x, 2, 20, 1);
    }

    private static void gatesAsTheyAre() {
        Check.sentence("promise 20, GATES as they are");
        BrinePans x = Check.made("MN060N004");
        dueShare(x, 0, 0, 1);
        dueShare(x, 1, 40, 1);
        x.turn(0);
        dueShare(x, 0, -16, 1);
        x.turn(0);
        dueShare(x, 0, 0, 1);
    }

    private static void behindFourDays() {
        Check.sentence("promise 20, behind 4 DAYS");
        dueShare(Check.made("MN069S0S0S0S1"), 0, 50, 1);
        dueShare(Check.made("MN069S0S0S0S0S1"), 0, 42, 1);
        BrinePans x = Check.made("MN069S1S0S0S0S4");
        dueShare(x, 0, 50, 1);
        x.day();
        dueShare(x, 0, 82, 1);
    }

    private static void sixPans() {
        Check.sentence("promise 20, in each order as likely, of six");
        BrinePans x = Check.made("MN010N001N001N000N000N000");
        x.turn(0);
        x.turn(1);
        dueShare(x, 0, -16, 3);
        dueShare(x, 1, 26, 3);
        dueShare(x, 2, 26, 3);
        dueShare(x, 5, 0, 1);
        x = Check.made("MN010N001N001N001N001N001");
        for (int gate = 0; gate < 5; gate++) {
            x.turn(gate);
        }
        dueAlike(x);
    }

    /**
     * Pan 0 has an inch that goes down to pan 5 in a day: 8 of the salt that has come are its brine. So it costs 8,
     * as soon as pan 0 and any other have come, and the one of them that comes later pays.
     */
    private static void dueAlike(BrinePans x) {
        Check.due("all", x.crust(4), 42);
        // pan 0 pays 8, unless it comes first: 5 of 6
        dueShare(x, 0, -20, 3);
        // each of the others brings 10, and pays 8 if it comes second, behind pan 0: 1 of 30
        for (int pan = 1; pan < 6; pan++) {
            dueShare(x, pan, 146, 15);
        }
    }

    private static void nothingIsChanged() {
        Check.sentence("promise 20, nothing is changed");
        Check.Lead lead = Check.marsh("MN365N121N204S1R4").then(x -> {
            x.turn(0);
            x.keep(0);
            x.day();
        });
        Check.changesNothing("share(0, true)", lead, x -> x.share(0, true));
        Check.changesNothing("share(2, false)", lead, x -> x.share(2, false));
    }
}
