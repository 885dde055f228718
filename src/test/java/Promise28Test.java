/** Promise 28, keep: one test for each boundary that the document names. */
public final class Promise28Test {
    public static void main(String[] args) {
        unknown();
        theDay();
        whatIsKept();
        eachSlotForItself();
        overWhatWasKept();
        ofNoMarsh();
        allElseStays();
        Check.end();
    }

    private static void unknown() {
        Check.sentence("promise 28, SLOTS 0 .. 1; UNKNOWN");
        Check.Lead lead = Check.marsh("MN019N020S1").then(x -> {
            x.keep(0);
            x.day();
        });
        for (int slot : new int[] {-1, 2, 3, Integer.MIN_VALUE, Integer.MAX_VALUE}) {
            Check.refused("keep(" + slot + ")", lead, x -> x.keep(slot), BrinePans.UNKNOWN);
        }
        Check.due("keep(0)", Check.after(lead).keep(0), 1);
        Check.due("keep(1)", Check.after(lead).keep(1), 1);
    }

    private static void theDay() {
        Check.sentence("promise 28, they are kept: THE DAY");
        BrinePans x = Check.made("MN019S1");
        for (int day = 0; day < 20; day++) {
            Check.due("keep(" + day % 2 + ")", x.keep(day % 2), day);
            x.day();
        }
    }

    private static void whatIsKept() {
        Check.sentence("promise 28, SLOTS keep WATER, SALT, GATES, THE HEAP, THE DAY");
        BrinePans x = Check.made("MN019N161S1");
        x.turn(0);
        x.rake(0);
        x.day();
        x.keep(1);
        String kept = Check.held(x);
        // pan 0 gave its inch with 8 of salt, and a sun took another from pan 1
        Check.dueText("as it is", kept, "0 0 6 18 1 82 1");
        x.sea(3);
        x.turn(0);
        x.day();
        x.day();
        Check.due("again(1)", x.again(1), 1);
        Check.dueText("as it was kept", Check.held(x), kept);
    }

    private static void eachSlotForItself() {
        Check.sentence("promise 28, two SLOTS, each for itself");
        BrinePans x = Check.made("MN009S1");
        x.keep(0);
        x.rake(0);
        x.day();
        x.keep(1);
        x.day();
        Check.due("again(0)", x.again(0), 0);
        Check.dueSalt("of slot 0", x, 90);
        Check.due("again(1)", x.again(1), 1);
        Check.dueSalt("of slot 1", x, 0);
        Check.due("the heap of slot 1", x.about(5), 90);
    }

    private static void overWhatWasKept() {
        Check.sentence("promise 28, what was kept before is kept no more");
        BrinePans x = Check.made("MN009S1");
        x.keep(0);
        x.day();
        x.keep(0);
        x.day();
        Check.due("again(0)", x.again(0), 1);
    }

    private static void ofNoMarsh() {
        Check.sentence("promise 28, of no PAN");
        BrinePans x = new BrinePans();
        x.day();
        Check.due("keep(1)", x.keep(1), 1);
        x.day();
        Check.due("again(1)", x.again(1), 1);
        Check.due("the day", x.about(2), 1);
        Check.due("again(0)", x.again(0), BrinePans.LATE);
    }

    private static void allElseStays() {
        Check.sentence("promise 28, ACTS stay, and keep is none");
        BrinePans x = Check.made("MN019N020S1");
        x.turn(0);
        x.day();
        String seen = Check.seen(x);
        x.keep(0);
        Check.dueText("all that is seen", Check.seen(x), seen);
        Check.due("undo()", x.undo(), 1);
        Check.due("undo()", x.undo(), 0);
        Check.due("the day", x.about(2), 0);
        Check.due("what was kept is not undone", x.again(0), 1);
    }
}
