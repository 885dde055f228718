/** Promise 23, salts: one test for each boundary that the document names. */
public final class Promise23Test {
    public static void main(String[] args) {
        bad();
        hundred();
        none();
        orMore();
        less();
        byWater();
        allThatIsFound();
        nothingIsChanged();
        Check.end();
    }

    private static void dueSalts(BrinePans x, int count, int first) {
        Check.due("salts(0)", x.salts(0), count);
        Check.due("salts(1)", x.salts(1), first);
    }

    private static BrinePans found(int w, int c, int more) {
        BrinePans x = new BrinePans();
        x.find(w, c, more);
        return x;
    }

    private static void bad() {
        Check.sentence("promise 23, what = 0, 1; BAD");
        for (int what : new int[] {-1, 2, Integer.MIN_VALUE, Integer.MAX_VALUE}) {
            Check.refused("salts(" + what + ")", x -> x.find(1, 5, 1), x -> x.salts(what), BrinePans.BAD);
        }
        dueSalts(found(1, 5, 1), 87, 13);
    }

    private static void hundred() {
        Check.sentence("promise 23, 0 .. 99 of SALT: 100 there are");
        dueSalts(new BrinePans(), 100, 0);
        dueSalts(found(0, 0, 1), 100, 0);
        dueSalts(found(0, 99, 1), 1, 99);
        dueSalts(found(0, 99, 0), 99, 0);
        dueSalts(found(0, 1, 0), 1, 0);
        dueSalts(found(9, 28, 0), 100, 0);
        dueSalts(found(9, 27, 0), 99, 0);
    }

    private static void none() {
        Check.sentence("promise 23, how many: 0; the first one: NONE");
        dueSalts(found(0, 0, 0), 0, BrinePans.NONE);
        dueSalts(found(9, 28, 1), 0, BrinePans.NONE);
        dueSalts(found(9, 27, 1), 1, 99);
        dueSalts(found(1, 92, 1), 0, BrinePans.NONE);
        dueSalts(found(1, 91, 1), 1, 99);
    }

    private static void orMore() {
        Check.sentence("promise 23, c of CRUST, or more (1)");
        // 24 are brine in 3 inches
        dueSalts(found(3, 5, 1), 71, 29);
        dueSalts(found(3, 1, 1), 75, 25);
        dueSalts(found(3, 0, 1), 100, 0);
    }

    private static void less() {
        Check.sentence("promise 23, or less (0)");
        dueSalts(found(3, 5, 0), 29, 0);
        dueSalts(found(3, 1, 0), 25, 0);
        dueSalts(found(3, 0, 0), 0, BrinePans.NONE);
    }

    private static void byWater() {
        Check.sentence("promise 23, at w (0 .. 9) inches of WATER, 8 times as much is BRINE");
        for (int w = 0; w <= 9; w++) {
            dueSalts(found(w, 10, 1), 90 - 8 * w, 10 + 8 * w);
            dueSalts(found(w, 10, 0), 10 + 8 * w, 0);
        }
    }

    private static void allThatIsFound() {
        Check.sentence("promise 23, by which all that is FOUND is so");
        BrinePans x = new BrinePans();
        x.find(2, 10, 1);
        dueSalts(x, 74, 26);
        x.find(5, 3, 0);
        dueSalts(x, 17, 26);
        x.find(4, 0, 1);
        dueSalts(x, 17, 26);
        x.find(1, 25, 0);
        dueSalts(x, 7, 26);
        x.find(0, 32, 1);
        dueSalts(x, 1, 32);
        x.find(0, 32, 0);
        dueSalts(x, 0, BrinePans.NONE);
    }

    private static void nothingIsChanged() {
        Check.sentence("promise 23, nothing is changed");
        Check.Lead lead = Check.marsh("MN019S1").then(x -> {
            x.find(2, 10, 1);
            x.day();
        });
        Check.changesNothing("salts(0)", lead, x -> x.salts(0));
        Check.changesNothing("salts(1)", lead, x -> x.salts(1));
    }
}
