/** Promises 8 to 13: days, sea, brine let on, gates turned, salt raked, all undone. */
public final class ActsTest {
    public static void main(String[] args) {
        dayByGates();
        dayByLeaks();
        dayBySkies();
        sea();
        saltAtMost();
        let();
        turn();
        rake();
        undo();
        forgottenActs();
        Check.end();
    }

    private static void dayByGates() {
        BrinePans x = Check.made("MN020N000N000");
        x.turn(0);
        x.turn(1);
        x.day();
        Check.dueWater("an inch goes two pans on", x, 1, 0, 1);
        x = Check.made("MN020N060N000");
        x.turn(0);
        x.turn(1);
        x.day();
        Check.dueWater("no room when its turn comes", x, 2, 5, 1);
        x = Check.made("MN060N160");
        x.turn(0);
        x.day();
        Check.dueWater("a deep one has room", x, 5, 7);
        x = Check.made("MN012N000S4");
        Check.due("a shut gate", x.later(1, 1, 1), 0);
        x.turn(0);
        Check.due("day()", x.day(), 20);
        Check.dueSalt("gates come before the sun", x, 12, 8);
        Check.dueWater("all dried", x, 0, 0);
        x = Check.made("MN041N000");
        x.turn(0);
        x.day();
        Check.dueSalt("10 by 4, cut", x, 8, 2);
        x.day();
        Check.dueSalt("8 by 3, cut", x, 6, 4);
    }

    private static void dayByLeaks() {
        BrinePans x = Check.made("MN323");
        Check.due("a leak takes no crust", x.day(), 14);
        Check.dueWater("a leak", x, 1);
        Check.dueSalt("a leak", x, 22);
        x.day();
        x.day();
        Check.dueWater("leaked empty", x, 0);
        Check.dueSalt("leaked empty", x, 14);
        x = Check.made("MN012N300");
        x.turn(0);
        x.day();
        Check.dueWater("leaks come behind gates", x, 0, 0);
        Check.dueSalt("leaks come behind gates", x, 12, 0);
        x = Check.made("MN300R2");
        x.day();
        Check.dueWater("leaks come before rain", x, 2);
        x = Check.made("MN018N301N014S0");
        x.day();
        Check.dueSalt("others do not leak", x, 80, 10, 40);
    }

    private static void dayBySkies() {
        BrinePans x = Check.made("MN060N160N260N360S2");
        x.day();
        Check.dueWater("a sun of 2", x, 4, 4, 3, 3);
        x.day();
        x.day();
        Check.dueWater("or all", x, 0, 0, 0, 0);
        x = Check.made("MN260S0");
        x.day();
        Check.dueWater("a sun of 0 in a dark one", x, 6);
        x = Check.made("MN260");
        x.day();
        Check.dueWater("no sky is a sun of 0", x, 6);
        Check.due("days without skies", x.about(2), 1);
        x = Check.made("MN050N150N210R4");
        x.day();
        Check.dueWater("rain, as there is room", x, 6, 9, 5);
        x = Check.made("MN069S1R2");
        Check.due("crust then", x.day(), 50);
        Check.due("it lies less behind rain", x.day(), 42);
        Check.due("the sky comes round", x.day(), 50);
        Check.due("of all pans", new BrinePans().day(), 0);
    }

    private static void sea() {
        BrinePans x = Check.made("MN000N000");
        Check.due("sea(7)", x.sea(7), BrinePans.FULL);
        Check.due("sea(6)", x.sea(6), 6);
        Check.due("its salt", x.pan(0, 2), 12);
        Check.due("sea(1) in a full one", x.sea(1), BrinePans.FULL);
        Check.due("sea(0) in a full one", x.sea(0), BrinePans.BAD);
        Check.due("sea(10)", x.sea(10), BrinePans.BAD);
        Check.due("sea(-3)", x.sea(-3), BrinePans.BAD);
        Check.due("acts", x.about(10), 1);
        x = Check.made("MN100");
        Check.due("sea(9) in a deep one", x.sea(9), 9);
        Check.due("its salt", x.pan(0, 2), 18);
        x = Check.made("MN021");
        Check.due("sea(3) behind 2", x.sea(3), 5);
        Check.due("its salt", x.pan(0, 2), 16);
        x = Check.made("MS1");
        Check.due("sea(1) without pans", x.sea(1), BrinePans.UNKNOWN);
        Check.due("sea(0) without pans", x.sea(0), BrinePans.UNKNOWN);
    }

    private static void saltAtMost() {
        BrinePans x = Check.made("MN009N000S4");
        for (int i = 0; i < 113; i++) {
            x.sea(4);
            x.day();
        }
        Check.due("90 and 113 times 8", x.pan(0, 2), 994);
        x.sea(4);
        Check.due("999 at most", x.pan(0, 2), 999);
        Check.due("crust", x.pan(0, 4), 967);
        x.undo();
        Check.due("undone", x.pan(0, 2), 994);
        Check.due("raked", x.rake(0), 994);
        Check.due("the heap", x.about(5), 994);
        x = Check.made("MN000N009S4");
        for (int i = 0; i < 113; i++) {
            x.sea(4);
            x.let(0, 4);
            x.day();
        }
        x.sea(4);
        Check.due("994 in the next one", x.pan(1, 2), 994);
        Check.due("8 go on", x.let(0, 4), 8);
        Check.dueSalt("5 come, 3 are lost", x, 0, 999);
    }

    private static void let() {
        BrinePans x = Check.made("MN031N000N060");
        Check.due("10 by 3, cut", x.let(0, 1), 3);
        Check.dueSalt("let 1", x, 7, 3, 0);
        Check.dueWater("let 1", x, 2, 1, 6);
        Check.due("all", x.let(0, 2), 7);
        Check.dueSalt("let 2", x, 0, 10, 0);
        Check.dueWater("let 2", x, 0, 3, 6);
        Check.due("crust stays", crustLet(), 24);
        String before = Check.seen(x);
        Check.due("let(-1, 1)", x.let(-1, 1), BrinePans.UNKNOWN);
        Check.due("let(2, 1): the last one", x.let(2, 1), BrinePans.UNKNOWN);
        Check.due("let(3, 0)", x.let(3, 0), BrinePans.UNKNOWN);
        Check.due("let(1, 0)", x.let(1, 0), BrinePans.BAD);
        Check.due("let(1, 10)", x.let(1, 10), BrinePans.BAD);
        Check.due("let(1, 4): not so many, nor room", x.let(1, 4), BrinePans.LATE);
        Check.due("let(1, 3): no room", x.let(1, 3), BrinePans.FULL);
        Check.due("let(0, 1): empty", x.let(0, 1), BrinePans.LATE);
        Check.due("nothing changed", Check.seen(x).equals(before) ? 1 : 0, 1);
        x = Check.made("MN160N130");
        Check.due("let 6 to a deep one", x.let(0, 6), 0);
        Check.dueWater("let 6", x, 0, 9);
    }

    private static int crustLet() {
        // 5 inches hold 40 of 50; two of them take 16 along, and 10 stay as crust with 24 of brine
        BrinePans x = Check.made("MN055N100");
        return x.let(0, 2) == 16 && x.pan(0, 4) == 10 ? x.pan(0, 3) : -1;
    }

    private static void turn() {
        BrinePans x = Check.made("MN000N000N000");
        Check.due("turn(1)", x.turn(1), 1);
        Check.due("open", x.about(4), 2);
        Check.due("turn(0)", x.turn(0), 1);
        Check.due("turn(1) again", x.turn(1), 0);
        Check.due("open", x.about(4), 1);
        Check.due("turn(2): the last pan has none", x.turn(2), BrinePans.UNKNOWN);
        Check.due("turn(-1)", x.turn(-1), BrinePans.UNKNOWN);
        Check.due("turn(32)", x.turn(32), BrinePans.UNKNOWN);
        Check.due("open", x.about(4), 1);
        Check.due("acts", x.about(10), 3);
        Check.due("turn(0) of one pan", Check.made("MN000").turn(0), BrinePans.UNKNOWN);
    }

    private static void rake() {
        BrinePans x = Check.made("MN019N029N000N011N005");
        Check.due("at 1 inch", x.rake(0), 82);
        Check.due("its brine stays", x.pan(0, 2), 8);
        Check.due("no crust now", x.rake(0), BrinePans.LATE);
        Check.due("at 2 inches", x.rake(1), BrinePans.LATE);
        Check.due("nothing there", x.rake(2), BrinePans.LATE);
        Check.due("2 of crust", x.rake(3), 2);
        Check.due("at 0 inches", x.rake(4), 50);
        Check.due("the heap", x.about(5), 134);
        Check.due("rake(5)", x.rake(5), BrinePans.UNKNOWN);
        Check.due("rake(-1)", x.rake(-1), BrinePans.UNKNOWN);
        Check.due("acts", x.about(10), 3);
        x = Check.made("MN061N000S1");
        x.let(0, 1);
        x.day();
        Check.due("that can be raked", x.about(9), 2);
        Check.due("1 of crust", x.rake(1), 1);
    }

    private static void undo() {
        BrinePans x = Check.made("MN019N020S1");
        String[] held = new String[6];
        for (int act = 0; act < 6; act++) {
            held[act] = Check.held(x);
            doAct(x, act);
        }
        x.sea(10);
        x.rake(9);
        for (int act = 5; act >= 0; act--) {
            Check.due("undo()", x.undo(), act);
            Check.dueText("as before act " + act, Check.held(x), held[act]);
        }
        Check.due("undo() of none", x.undo(), BrinePans.LATE);
    }

    private static void doAct(BrinePans x, int act) {
        switch (act) {
            case 0: Check.due("turn", x.turn(0), 1); break;
            case 1: Check.due("rake", x.rake(0), 82); break;
            case 2: Check.due("sea", x.sea(2), 3); break;
            case 3: Check.due("let", x.let(0, 1), 4); break;
            case 4: Check.due("day", x.day(), 4); break;
            default: Check.due("rake what the day left", x.rake(0), 4); break;
        }
    }

    private static void forgottenActs() {
        BrinePans x = Check.made("MN000N000");
        for (int i = 1; i <= 20; i++) {
            x.day();
            Check.due("acts", x.about(10), Math.min(14, i));
        }
        for (int left = 13; left >= 0; left--) {
            Check.due("undo()", x.undo(), left);
            Check.due("the day", x.about(2), 6 + left);
        }
        Check.due("the first six are forgotten", x.undo(), BrinePans.LATE);
        x.turn(0);
        Check.due("an act behind them", x.undo(), 0);
        Check.due("shut again", x.about(4), 0);
    }
}
