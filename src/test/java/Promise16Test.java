/** Promise 16, ripe: one test for each boundary that the document names. */
public final class Promise16Test {
    public static void main(String[] args) {
        unknown();
        now();
        thirtyDays();
        theFirst();
        never();
        byWhatComes();
        nothingIsChanged();
        Check.end();
    }

    private static void unknown() {
        Check.sentence("promise 16, UNKNOWN");
        Check.Lead lead = Check.marsh("MN009N029S1");
        for (int pan : new int[] {-1, 2, 6, Integer.MIN_VALUE, Integer.MAX_VALUE}) {
            Check.refused("ripe(" + pan + ")", lead, x -> x.ripe(pan), BrinePans.UNKNOWN);
        }
        Check.due("the first", Check.after(lead).ripe(0), 0);
        Check.due("the last", Check.after(lead).ripe(1), 1);
        Check.due("no pan", new BrinePans().ripe(0), BrinePans.UNKNOWN);
    }

    private static void now() {
        Check.sentence("promise 16, in 0 DAYS");
        Check.due("at no water", Check.made("MN001S1").ripe(0), 0);
        Check.due("at 1 inch", Check.made("MN011S1").ripe(0), 0);
        Check.due("at 2 inches", Check.made("MN029S1").ripe(0), 1);
        BrinePans x = Check.made("MN011N000S1");
        x.let(0, 1);
        Check.due("8 in 1 inch", x.ripe(1), 1);
    }

    private static void thirtyDays() {
        Check.sentence("promise 16, in how many DAYS (0 .. 30); NONE");
        // the sun takes an inch on days 1, 6, 11, 16, 21, 26 and 31; of 8 inches 7 have to go
        BrinePans x = Check.made("MN169S1S0S0S0S0");
        x.sea(2);
        Check.due("on day 31", x.ripe(0), BrinePans.NONE);
        x.day();
        Check.due("on day 30", x.ripe(0), 30);
        x.day();
        Check.due("on day 29", x.ripe(0), 29);
        x.undo();
        x.sea(1);
        Check.due("on day 35", x.ripe(0), BrinePans.NONE);
    }

    private static void theFirst() {
        Check.sentence("promise 16, it can be RAKED first");
        Check.due("not the last", Check.made("MN029S1R1").ripe(0), 1);
        Check.due("behind a rain", Check.made("MN029R1S1S1").ripe(0), 3);
        Check.due("now, and not then", Check.made("MN019R4").ripe(0), 0);
    }

    private static void never() {
        Check.sentence("promise 16, NONE");
        Check.due("no salt", Check.made("MN010S1").ripe(0), BrinePans.NONE);
        Check.due("no sun", Check.made("MN029").ripe(0), BrinePans.NONE);
        Check.due("it leaks dry without a crust", Check.made("MN321").ripe(0), BrinePans.NONE);
        Check.due("rain and sun alike", Check.made("MN029R1S1").ripe(0), BrinePans.NONE);
    }

    private static void byWhatComes() {
        Check.sentence("promise 16, by what comes from the PAN before it");
        BrinePans x = Check.made("MN069N000S2");
        Check.due("shut", x.ripe(1), BrinePans.NONE);
        x.turn(0);
        Check.due("open", x.ripe(1), 1);
        Check.due("the pan before it", x.ripe(0), 2);
    }

    private static void nothingIsChanged() {
        Check.sentence("promise 16, nothing is changed");
        Check.Lead lead = Check.marsh("MN365N061S1R1").then(x -> {
            x.turn(0);
            x.keep(0);
            x.day();
        });
        Check.changesNothing("ripe(1)", lead, x -> x.ripe(1));
        Check.changesNothing("ripe(0)", lead, x -> x.ripe(0));
    }
}
