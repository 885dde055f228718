/** Promise 15, crust: one test for each boundary that the document names. */
public final class Promise15Test {
    public static void main(String[] args) {
        days();
        noPan();
        allPans();
        nothingIsChanged();
        Check.end();
    }

    private static void days() {
        Check.sentence("promise 15, IN n DAYS (0 .. 30); BAD: n");
        Check.Lead seven = Check.marsh("MN169S0S0S0S0S1").then(x -> x.sea(1));
        BrinePans x = Check.after(seven);
        Check.due("crust(0)", x.crust(0), 36);
        Check.due("crust(4)", x.crust(4), 36);
        Check.due("crust(5)", x.crust(5), 44);
        Check.due("crust(29)", x.crust(29), 76);
        Check.due("crust(30)", x.crust(30), 84);
        for (int n : new int[] {-1, 31, Integer.MIN_VALUE, Integer.MAX_VALUE}) {
            Check.refused("crust(" + n + ")", seven, y -> y.crust(n), BrinePans.BAD);
        }
    }

    private static void noPan() {
        Check.sentence("promise 15, of no PAN");
        BrinePans x = new BrinePans();
        Check.due("crust(0)", x.crust(0), 0);
        Check.due("crust(30)", x.crust(30), 0);
        Check.due("crust(31)", x.crust(31), BrinePans.BAD);
    }

    private static void allPans() {
        Check.sentence("promise 15, CRUST of all PANS together");
        BrinePans x = Check.made("MN069N169N269N369N069N169S1");
        // behind a day 5, 5, 4, 4, 5, 5 inches; 8 of salt leak away
        Check.due("crust(0)", x.crust(0), 6 * 42);
        Check.due("crust(1)", x.crust(1), 50 + 50 + 58 + (82 - 32) + 50 + 50);
    }

    private static void nothingIsChanged() {
        Check.sentence("promise 15, nothing is changed");
        Check.Lead lead = Check.marsh("MN365N121S1R4").then(x -> {
            x.turn(0);
            x.keep(0);
            x.day();
        });
        Check.changesNothing("crust(30)", lead, x -> x.crust(30));
        Check.changesNothing("crust(0)", lead, x -> x.crust(0));
    }
}
