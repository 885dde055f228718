/** Promise 5, marsh: one test for each boundary that the document names. */
public final class Promise05Test {
    private static final String MOST = "MN000N100N200N300N000N000S0R1S4R4S0";

    public static void main(String[] args) {
        pansAndSkies();
        late();
        gatesHeapDay();
        noActs();
        keptIsGone();
        foundAndSeedStay();
        numberedAsTold();
        waterAndSalt();
        nothingOfTheOldOne();
        textStays();
        Check.end();
    }

    private static Check.Lead used() {
        return Check.marsh("MN019N060S1").then(x -> {
            x.turn(0);
            x.rake(0);
            x.keep(0);
            x.day();
            x.keep(1);
            x.day();
            x.find(1, 2, 1);
            x.seed(77);
        });
    }

    private static void pansAndSkies() {
        Check.sentence("promise 5, 10 times PANS, and SKIES");
        Check.due("none", Check.after(Check.written("M")).marsh(), 0);
        Check.due("a sky", Check.after(Check.written("MR4")).marsh(), 1);
        Check.due("a pan", Check.after(Check.written("MN000")).marsh(), 10);
        Check.due("six and five", Check.after(Check.written(MOST)).marsh(), 65);
    }

    private static void late() {
        Check.sentence("promise 5, LATE: a FAULT");
        for (String text : new String[] {"", "X", "MN", "MN00", "MN000S5", "MN000N", MOST + "S", "MN019N060S1M"}) {
            Check.refused("marsh() of " + text, used().then(Check.written(text)), x -> x.marsh(), BrinePans.LATE);
        }
    }

    private static void gatesHeapDay() {
        Check.sentence("promise 5, when it is made anew, GATES are shut, THE HEAP is 0, THE DAY is 0");
        BrinePans x = Check.after(used());
        Check.due("gates before", x.about(4), 1);
        Check.due("heap before", x.about(5), 82);
        Check.due("day before", x.about(2), 2);
        Check.due("marsh()", x.marsh(), 21);
        Check.due("gates", x.about(4), 0);
        Check.due("heap", x.about(5), 0);
        Check.due("day", x.about(2), 0);
        Check.dueWater("anew", x, 1, 6);
        Check.dueSalt("anew", x, 90, 0);
    }

    private static void noActs() {
        Check.sentence("promise 5, no ACTS");
        BrinePans x = Check.after(used());
        Check.due("acts before", x.about(10), 4);
        x.marsh();
        Check.due("acts", x.about(10), 0);
        Check.due("undo()", x.undo(), BrinePans.LATE);
        x.turn(0);
        Check.due("undo() of one", x.undo(), 0);
        Check.due("undo() of no more", x.undo(), BrinePans.LATE);
    }

    private static void keptIsGone() {
        Check.sentence("promise 5, what was kept is gone");
        BrinePans x = Check.after(used());
        Check.due("again(0) before", x.again(0), 0);
        Check.due("again(1) before", x.again(1), 1);
        x.marsh();
        Check.due("again(0)", x.again(0), BrinePans.LATE);
        Check.due("again(1)", x.again(1), BrinePans.LATE);
        x.keep(1);
        Check.due("again(1) of a new one", x.again(1), 0);
        Check.due("again(0) is gone as it was", x.again(0), BrinePans.LATE);
    }

    private static void foundAndSeedStay() {
        Check.sentence("promise 5, FOUND, THE SEED stay");
        BrinePans x = Check.after(used());
        x.marsh();
        Check.due("found", x.about(11), 1);
        Check.due("salts(1)", x.salts(1), 10);
        Check.due("seed", x.seed(0), 77);
    }

    private static void numberedAsTold() {
        Check.sentence("promise 5, numbered as they are told, each kind for itself");
        BrinePans x = Check.made("MS1N123R2N316S0");
        Check.due("kind of 0", x.pan(0, 0), 1);
        Check.due("kind of 1", x.pan(1, 0), 3);
        Check.due("there is no 2", x.pan(2, 0), BrinePans.UNKNOWN);
        Check.due("sky 0", x.about(3), 1);
        x.day();
        Check.due("sky 1", x.about(3), -2);
        x.day();
        Check.due("sky 2", x.about(3), 0);
        x.day();
        Check.due("there is no sky 3", x.about(3), 1);
    }

    private static void waterAndSalt() {
        Check.sentence("promise 5, w (0 .. 6) inches, ten times s (0 .. 9)");
        BrinePans x = Check.made("MN000N109N260N369N001N110");
        Check.dueWater("told", x, 0, 0, 6, 6, 0, 1);
        Check.dueSalt("told", x, 0, 90, 0, 90, 10, 0);
        int[] kinds = {0, 1, 2, 3, 0, 1};
        for (int pan = 0; pan < 6; pan++) {
            Check.due("kind of " + pan, x.pan(pan, 0), kinds[pan]);
        }
    }

    private static void nothingOfTheOldOne() {
        Check.sentence("promise 5, THE TEXT is THE MARSH, and nothing of the old one is");
        BrinePans x = Check.made("MN069N069N069N069N069N069S4S4S4S4S4");
        Check.write(x, "MN020");
        Check.due("marsh()", x.marsh(), 10);
        Check.due("pan(1, 0)", x.pan(1, 0), BrinePans.UNKNOWN);
        Check.due("turn(0)", x.turn(0), BrinePans.UNKNOWN);
        Check.due("salt of all", x.about(7), 0);
        Check.due("no sky", x.about(3), 0);
        x.day();
        Check.dueWater("a day without a sun", x, 2);
        Check.write(x, "M");
        Check.due("a marsh of nothing", x.marsh(), 0);
        Check.due("pan(0, 0)", x.pan(0, 0), BrinePans.UNKNOWN);
        Check.due("water of all", x.about(6), 0);
        Check.write(x, "MN020N030");
        Check.due("and of two", x.marsh(), 20);
        Check.dueSalt("no old salt", x, 0, 0);
    }

    private static void textStays() {
        Check.sentence("promise 5, THE TEXT is not changed");
        BrinePans x = Check.after(Check.written("MN035"));
        Check.due("marsh()", x.marsh(), 10);
        Check.due("about(12)", x.about(12), 5);
        Check.due("a byte more", x.write('S'), 6);
        Check.due("marsh() then", x.marsh(), BrinePans.LATE);
        x.write('3');
        Check.due("marsh() of all", x.marsh(), 11);
    }
}
