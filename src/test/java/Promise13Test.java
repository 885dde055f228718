/** Promise 13, undo: one test for each boundary that the document names. */
public final class Promise13Test {
    public static void main(String[] args) {
        late();
        eachKindOfAct();
        fourteen();
        theFirstIsForgotten();
        aLongRow();
        undoneAndDone();
        refusalsAreNoActs();
        othersAreNoActs();
        othersAreNotUndone();
        Check.end();
    }

    private static void late() {
        Check.sentence("promise 13, LATE: there is none");
        Check.Lead one = Check.marsh("MN019N020S1").then(x -> x.day());
        Check.refused("a new one", Check.nothing(), x -> x.undo(), BrinePans.LATE);
        Check.refused("a new marsh", one.then(x -> x.marsh()), x -> x.undo(), BrinePans.LATE);
        Check.refused("all undone", one.then(x -> x.undo()), x -> x.undo(), BrinePans.LATE);
        Check.Lead goneOn = one.then(x -> {
            x.keep(0);
            x.again(0);
        });
        Check.refused("gone on from a slot", goneOn, x -> x.undo(), BrinePans.LATE);
        Check.due("one act", Check.after(one).undo(), 0);
    }

    private static void eachKindOfAct() {
        Check.sentence("promise 13, the last ACT is undone: how many are left");
        BrinePans x = Check.made("MN019N120S1R2");
        String[] held = new String[6];
        for (int act = 0; act < 6; act++) {
            held[act] = Check.held(x);
            long answer = doAct(x, act);
            Check.due("act " + act + " is done", answer >= 0 ? 1 : 0, 1);
            Check.due("act " + act + " changes something", Check.held(x).equals(held[act]) ? 1 : 0, 0);
        }
        for (int act = 5; act >= 0; act--) {
            Check.due("undo()", x.undo(), act);
            Check.dueText("as before act " + act, Check.held(x), held[act]);
        }
    }

    private static long doAct(BrinePans x, int act) {
        switch (act) {
            case 0: return x.turn(0);
            case 1: return x.rake(0);
            case 2: return x.sea(3);
            case 3: return x.let(0, 2);
            case 4: return x.day();
            default: return x.turn(0);
        }
    }

    private static void fourteen() {
        Check.sentence("promise 13, ACTS are a row (14 at most)");
        BrinePans x = Check.made("MN000");
        for (int i = 0; i < 14; i++) {
            x.day();
        }
        for (int left = 13; left >= 0; left--) {
            Check.due("undo()", x.undo(), left);
            Check.due("the day", x.about(2), left);
        }
        Check.due("undo() of no more", x.undo(), BrinePans.LATE);
    }

    private static void theFirstIsForgotten() {
        Check.sentence("promise 13, when it is full, the first one is forgotten");
        BrinePans x = Check.made("MN000");
        for (int i = 0; i < 15; i++) {
            x.day();
        }
        for (int left = 13; left >= 0; left--) {
            Check.due("undo()", x.undo(), left);
            Check.due("the day", x.about(2), left + 1);
        }
        Check.due("undo() of no more", x.undo(), BrinePans.LATE);
        Check.due("the first one stands", x.about(2), 1);
    }

    private static void aLongRow() {
        Check.sentence("promise 13, the first ones are forgotten, however many");
        BrinePans x = Check.made("MN000");
        for (int i = 0; i < 100; i++) {
            x.day();
        }
        for (int left = 13; left >= 0; left--) {
            Check.due("undo()", x.undo(), left);
            Check.due("the day", x.about(2), 86 + left);
        }
        Check.refused("undo() of no more", Check.marsh("MN000").then(Promise13Test::hundredAndBack), y -> y.undo(),
            BrinePans.LATE);
    }

    private static void hundredAndBack(BrinePans x) {
        for (int i = 0; i < 100; i++) {
            x.day();
        }
        for (int i = 0; i < 14; i++) {
            x.undo();
        }
    }

    private static void undoneAndDone() {
        Check.sentence("promise 13, what is undone leaves room in the row");
        BrinePans x = Check.made("MN000");
        for (int i = 0; i < 14; i++) {
            x.day();
        }
        for (int i = 0; i < 4; i++) {
            x.undo();
        }
        for (int i = 0; i < 4; i++) {
            x.sea(1);
        }
        Check.due("acts", x.about(10), 14);
        for (int left = 13; left >= 0; left--) {
            Check.due("undo()", x.undo(), left);
            Check.due("the day", x.about(2), Math.min(10, left));
            Check.dueWater("the sea", x, Math.max(0, left - 10));
        }
        Check.due("undo() of no more", x.undo(), BrinePans.LATE);
    }

    private static void refusalsAreNoActs() {
        Check.sentence("promise 13, what is refused is no ACT");
        BrinePans x = Check.made("MN060N060S1");
        x.turn(0);
        x.sea(1);
        x.sea(0);
        x.let(0, 1);
        x.let(1, 1);
        x.turn(1);
        x.rake(0);
        x.rake(2);
        Check.due("acts", x.about(10), 1);
        Check.due("undo()", x.undo(), 0);
        Check.due("the gate", x.about(4), 0);
    }

    private static void othersAreNoActs() {
        Check.sentence("promise 13, ACTS are DAYS, SEA, LET, TURNED, RAKED");
        BrinePans x = Check.made("MN019N000S1");
        x.turn(0);
        x.keep(0);
        x.find(1, 1, 1);
        x.forget();
        x.seed(5);
        x.years(9);
        x.write('X');
        x.wipe();
        x.later(0, 3, 1);
        x.best(3, 1);
        x.judge(1, 0);
        Check.due("acts", x.about(10), 1);
        Check.due("undo()", x.undo(), 0);
    }

    private static void othersAreNotUndone() {
        Check.sentence("promise 13, nothing is undone but the ACT");
        BrinePans x = Check.made("MN019N000S1");
        x.day();
        x.keep(1);
        x.find(1, 1, 1);
        x.seed(5);
        x.write('X');
        x.undo();
        Check.due("the day", x.about(2), 0);
        Check.due("found", x.about(11), 1);
        Check.due("the text", x.about(12), 12);
        Check.due("the seed", x.seed(0), 5);
        Check.due("what is kept", x.again(1), 1);
    }
}
