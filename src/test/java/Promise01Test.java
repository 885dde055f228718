/** Promise 1, a new object: one test for each sentence that tells how it begins. */
public final class Promise01Test {
    public static void main(String[] args) {
        noPan();
        noSky();
        gatesHeapDay();
        noActs();
        nothingKept();
        nothingFound();
        seedOf0();
        emptyText();
        eachForItself();
        Check.end();
    }

    private static void noPan() {
        Check.sentence("promise 1, at first there is no PAN");
        BrinePans x = new BrinePans();
        Check.due("about(0)", x.about(0), 0);
        Check.due("pan(0, 0)", x.pan(0, 0), BrinePans.UNKNOWN);
        Check.due("ripe(0)", x.ripe(0), BrinePans.UNKNOWN);
        Check.due("sea(1)", x.sea(1), BrinePans.UNKNOWN);
        for (int what = 6; what <= 9; what++) {
            Check.due("about(" + what + ")", x.about(what), 0);
        }
    }

    private static void noSky() {
        Check.sentence("promise 1, at first there is no SKY");
        BrinePans x = new BrinePans();
        Check.due("about(1)", x.about(1), 0);
        Check.due("about(3)", x.about(3), 0);
        x.day();
        Check.due("about(3) behind a day", x.about(3), 0);
    }

    private static void gatesHeapDay() {
        Check.sentence("promise 1, GATES, THE HEAP, THE DAY");
        BrinePans x = new BrinePans();
        Check.due("about(4)", x.about(4), 0);
        Check.due("about(5)", x.about(5), 0);
        Check.due("about(2)", x.about(2), 0);
    }

    private static void noActs() {
        Check.sentence("promise 1, no ACTS");
        BrinePans x = new BrinePans();
        Check.due("about(10)", x.about(10), 0);
        Check.due("undo()", x.undo(), BrinePans.LATE);
    }

    private static void nothingKept() {
        Check.sentence("promise 1, nothing is kept");
        BrinePans x = new BrinePans();
        Check.due("again(0)", x.again(0), BrinePans.LATE);
        Check.due("again(1)", x.again(1), BrinePans.LATE);
    }

    private static void nothingFound() {
        Check.sentence("promise 1, FOUND: none at first");
        BrinePans x = new BrinePans();
        Check.due("about(11)", x.about(11), 0);
        Check.due("salts(0)", x.salts(0), 100);
        Check.due("salts(1)", x.salts(1), 0);
        Check.due("forget()", x.forget(), 0);
    }

    private static void seedOf0() {
        Check.sentence("promise 1, THE SEED: 0 at first");
        Check.due("seed(1)", new BrinePans().seed(1), 0);
    }

    private static void emptyText() {
        Check.sentence("promise 1, THE TEXT is empty");
        BrinePans x = new BrinePans();
        Check.due("about(12)", x.about(12), 0);
        Check.due("fault()", x.fault(), 0);
        Check.due("wipe()", x.wipe(), 0);
    }

    private static void eachForItself() {
        Check.sentence("promise 1, a new object is new, whatever another one holds");
        BrinePans other = Check.made("MN019N020S1");
        other.turn(0);
        other.rake(0);
        other.day();
        other.keep(0);
        other.find(0, 50, 1);
        other.seed(7);
        BrinePans x = new BrinePans();
        for (int what = 0; what <= 12; what++) {
            Check.due("about(" + what + ")", x.about(what), 0);
        }
        Check.due("again(0)", x.again(0), BrinePans.LATE);
        Check.due("seed(1)", x.seed(1), 0);
        Check.due("the other's seed", other.seed(0), 7);
        Check.due("the other's pans", other.about(0), 2);
    }
}
