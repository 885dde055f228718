/** Promise 29, again: one test for each boundary that the document names. */
public final class Promise29Test {
    public static void main(String[] args) {
        unknown();
        late();
        asTheyWereKept();
        noActs();
        asOftenAsOneLikes();
        foundSeedTextStay();
        Check.end();
    }

    private static Check.Lead kept0() {
        return Check.marsh("MN019N020S1").then(x -> {
            x.turn(0);
            x.keep(0);
            x.day();
        });
    }

    private static void unknown() {
        Check.sentence("promise 29, SLOTS 0 .. 1; UNKNOWN");
        for (int slot : new int[] {-1, 2, 3, Integer.MIN_VALUE, Integer.MAX_VALUE}) {
            Check.refused("again(" + slot + ")", kept0(), x -> x.again(slot), BrinePans.UNKNOWN);
            Check.refused("again(" + slot + ")", Check.nothing(), x -> x.again(slot), BrinePans.UNKNOWN);
        }
        Check.due("again(0)", Check.after(kept0()).again(0), 0);
        Check.due("again(1)", Check.after(kept0().then(x -> x.keep(1))).again(1), 1);
    }

    private static void late() {
        Check.sentence("promise 29, LATE: none were kept");
        Check.refused("again(0) of a new one", Check.nothing(), x -> x.again(0), BrinePans.LATE);
        Check.refused("again(1) of a new one", Check.nothing(), x -> x.again(1), BrinePans.LATE);
        Check.refused("again(1), slot 0 is kept", kept0(), x -> x.again(1), BrinePans.LATE);
        Check.Lead anew = kept0().then(x -> {
            x.marsh();
            x.day();
        });
        Check.refused("again(0) behind a new marsh", anew, x -> x.again(0), BrinePans.LATE);
        Check.Lead notAnew = kept0().then(x -> {
            x.write('X');
            x.marsh();
        });
        Check.due("again(0) behind none", Check.after(notAnew).again(0), 0);
    }

    private static void asTheyWereKept() {
        Check.sentence("promise 29, they are as they were kept: THE DAY");
        BrinePans x = Check.made("MN009N161S1R2");
        x.turn(0);
        x.rake(0);
        x.sea(4);
        x.day();
        String before = Check.held(x);
        x.keep(1);
        x.turn(0);
        x.sea(1);
        x.day();
        x.day();
        Check.due("again(1)", x.again(1), 1);
        Check.dueText("as it was kept", Check.held(x), before);
        Check.due("the sky of that day", x.about(3), -2);
        x.day();
        Check.due("one goes on", x.about(2), 2);
        Check.due("the gate is open", x.about(4), 1);
    }

    private static void noActs() {
        Check.sentence("promise 29, no ACTS when one goes on");
        BrinePans x = Check.after(kept0());
        Check.due("acts before", x.about(10), 2);
        x.again(0);
        Check.due("acts", x.about(10), 0);
        Check.due("undo()", x.undo(), BrinePans.LATE);
        x.day();
        Check.due("acts", x.about(10), 1);
        Check.due("undo()", x.undo(), 0);
        Check.due("the day", x.about(2), 0);
        Check.due("undo() of no more", x.undo(), BrinePans.LATE);
    }

    private static void asOftenAsOneLikes() {
        Check.sentence("promise 29, what is kept stays kept");
        BrinePans x = Check.after(kept0());
        for (int i = 0; i < 3; i++) {
            Check.due("again(0)", x.again(0), 0);
            Check.dueSalt("as it was kept", x, 90, 0);
            x.rake(0);
            x.turn(0);
            x.day();
        }
    }

    private static void foundSeedTextStay() {
        Check.sentence("promise 29, FOUND, THE SEED, THE TEXT are not kept");
        BrinePans x = Check.after(kept0());
        x.find(0, 5, 1);
        x.seed(6);
        x.write('X');
        x.again(0);
        Check.due("found", x.about(11), 1);
        Check.due("the text", x.about(12), 12);
        Check.due("the seed", x.seed(0), 6);
    }
}
