/** Promise 3, wipe: one test for each boundary that the document names. */
public final class Promise03Test {
    public static void main(String[] args) {
        howLong();
        isEmpty();
        allElseStays();
        Check.end();
    }

    private static void howLong() {
        Check.sentence("promise 3, how long it was");
        BrinePans x = new BrinePans();
        Check.due("wipe() of none", x.wipe(), 0);
        x.write('M');
        Check.due("wipe() of one", x.wipe(), 1);
        for (int i = 0; i < 40; i++) {
            x.write('M');
        }
        Check.due("wipe() of a full one", x.wipe(), 36);
        Check.due("wipe() a second time", x.wipe(), 0);
    }

    private static void isEmpty() {
        Check.sentence("promise 3, THE TEXT is empty");
        BrinePans x = Check.after(Check.written("X"));
        Check.due("fault() before", x.fault(), 0);
        x.wipe();
        Check.due("about(12)", x.about(12), 0);
        Check.due("fault()", x.fault(), 0);
        Check.due("marsh()", x.marsh(), BrinePans.LATE);
        x.write('M');
        Check.due("fault() of a new one", x.fault(), BrinePans.NONE);
        x.wipe();
        for (int i = 1; i <= 36; i++) {
            Check.due("byte " + i, x.write('M'), i);
        }
    }

    private static void allElseStays() {
        Check.sentence("promise 3, nothing but THE TEXT is changed");
        BrinePans x = Check.made("MN019N020S1");
        x.turn(0);
        x.rake(0);
        x.keep(1);
        x.day();
        x.find(1, 1, 1);
        x.seed(3);
        String held = Check.held(x);
        x.wipe();
        Check.dueText("held", Check.held(x), held);
        Check.due("acts", x.about(10), 3);
        Check.due("skies", x.about(1), 1);
        Check.due("found", x.about(11), 1);
        Check.due("seed", x.seed(0), 3);
        Check.due("undo()", x.undo(), 2);
        Check.due("again(1)", x.again(1), 0);
    }
}
