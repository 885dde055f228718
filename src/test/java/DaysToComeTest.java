/** Promises 14 to 20: what lies when, the best brine to let on, gates, doings judged, shares. */
public final class DaysToComeTest {
    public static void main(String[] args) {
        later();
        crust();
        ripe();
        best();
        gates();
        judge();
        judgeRefusals();
        share();
        nothingChanges();
        Check.end();
    }

    private static void later() {
        BrinePans x = Check.made("MN065N000S1R4");
        x.turn(0);
        // day 1: 5, 42 and 1, 8, dried to 4 and 0; day 2: 32 by 4 go on, and it rains
        Check.due("later(0, 0, 0)", x.later(0, 0, 0), 6);
        Check.due("later(0, 0, 1)", x.later(0, 0, 1), 50);
        Check.due("later(0, 0, 2)", x.later(0, 0, 2), 2);
        Check.due("later(0, 1, 0)", x.later(0, 1, 0), 4);
        Check.due("later(0, 1, 1)", x.later(0, 1, 1), 42);
        Check.due("later(0, 1, 2)", x.later(0, 1, 2), 10);
        Check.due("later(1, 1, 2)", x.later(1, 1, 2), 8);
        Check.due("later(0, 2, 0)", x.later(0, 2, 0), 6);
        Check.due("later(0, 2, 1)", x.later(0, 2, 1), 34);
        Check.due("later(1, 2, 0)", x.later(1, 2, 0), 5);
        Check.due("later(1, 2, 1)", x.later(1, 2, 1), 16);
        Check.due("later(1, 2, 2)", x.later(1, 2, 2), 0);
        Check.due("later(0, 30, 0)", x.later(0, 30, 0) < 0 ? 1 : 0, 0);
        Check.due("later(2, 31, 3)", x.later(2, 31, 3), BrinePans.UNKNOWN);
        Check.due("later(-1, 0, 0)", x.later(-1, 0, 0), BrinePans.UNKNOWN);
        Check.due("later(0, 31, 0)", x.later(0, 31, 0), BrinePans.BAD);
        Check.due("later(0, -1, 0)", x.later(0, -1, 0), BrinePans.BAD);
        Check.due("later(0, 0, 3)", x.later(0, 0, 3), BrinePans.BAD);
        Check.due("later(0, 0, -1)", x.later(0, 0, -1), BrinePans.BAD);
    }

    private static void crust() {
        BrinePans x = Check.made("MN069N129S1");
        int[] want = {116, 132, 148, 156, 164, 172, 180, 180};
        for (int n = 0; n < want.length; n++) {
            Check.due("crust(" + n + ")", x.crust(n), want[n]);
        }
        Check.due("crust(30)", x.crust(30), 180);
        Check.due("crust(31)", x.crust(31), BrinePans.BAD);
        Check.due("crust(-1)", x.crust(-1), BrinePans.BAD);
        x.day();
        Check.due("from now on", x.crust(1), 148);
    }

    private static void ripe() {
        BrinePans x = Check.made("MN019N029N021N000N261S0S0S1");
        Check.due("now", x.ripe(0), 0);
        Check.due("behind the first sun", x.ripe(1), 3);
        Check.due("1 inch holds 8 of 10", x.ripe(2), 3);
        Check.due("never", x.ripe(3), BrinePans.NONE);
        Check.due("a dark one", x.ripe(4), 9);
        Check.due("ripe(5)", x.ripe(5), BrinePans.UNKNOWN);
        Check.due("ripe(-1)", x.ripe(-1), BrinePans.UNKNOWN);
        x = Check.made("MN069S0S0S0S0S1");
        Check.due("25 days, 5 suns", x.ripe(0), 25);
        x.sea(9);
        x = Check.made("MN169S0S0S0S0S1");
        x.sea(1);
        Check.due("on the thirtieth day", x.ripe(0), 30);
        x.sea(1);
        Check.due("too late", x.ripe(0), BrinePans.NONE);
    }

    private static void best() {
        BrinePans x = Check.made("MN064N204S2");
        // none: 48; by 1 .. 6 inches: 56, 64, 72, 72, 64, 56
        Check.due("best(1, 0)", x.best(1, 0), 72);
        Check.due("best(1, 1)", x.best(1, 1), 3);
        Check.due("all dries anyway", x.best(9, 0), 80);
        Check.due("of like ones none", x.best(9, 1), 0);
        x = Check.made("MN000N000N064N204S2");
        Check.due("which", x.best(1, 1), 23);
        x = Check.made("MN064N204N064N204S2");
        Check.due("the least of like pans", x.best(1, 1), 3);
        x = Check.made("MN064N264S2");
        // 2 of 6 inches are the most there is no room for, so none it is: 8 and 40 less 24
        Check.due("no room", x.best(1, 0), 24);
        Check.due("no room", x.best(1, 1), 0);
        x = Check.made("MN312N100S1");
        // a leak takes 8 of 20, if its one inch is not let on
        Check.due("one inch of one", x.best(1, 0), 20);
        Check.due("one inch of one", x.best(1, 1), 1);
        x = Check.made("MN312N100N312N100S1");
        Check.due("pan 2 is like pan 0", x.best(1, 0), 32);
        Check.due("pan 2 is like pan 0", x.best(1, 1), 1);
        x = Check.made("MN000N000N000N000N312N100S1");
        Check.due("the last gate", x.best(1, 1), 41);
        Check.due("best(0, 0)", x.best(0, 0), BrinePans.BAD);
        Check.due("best(10, 0)", x.best(10, 0), BrinePans.BAD);
        Check.due("best(1, -1)", x.best(1, -1), BrinePans.BAD);
        Check.due("best(1, 2)", x.best(1, 2), BrinePans.BAD);
        Check.due("one pan", Check.made("MN015").best(1, 0), 42);
    }

    private static void gates() {
        BrinePans x = Check.made("MN064N204S2");
        x.turn(0);
        Check.due("none is needed, though one is open", x.gates(1, 48), 0);
        Check.due("gates(1, 49)", x.gates(1, 49), 1);
        Check.due("gates(1, 56)", x.gates(1, 56), 1);
        Check.due("gates(1, 57)", x.gates(1, 57), BrinePans.NONE);
        Check.due("gates(1, 0)", x.gates(1, 0), 0);
        Check.due("gates(9, 80)", x.gates(9, 80), 0);
        Check.due("gates(9, 81)", x.gates(9, 81), BrinePans.NONE);
        x = Check.made("MN064N204N064N204S2");
        Check.due("the least of like ones", x.gates(1, 100), 1);
        Check.due("two", x.gates(1, 105), 5);
        Check.due("two", x.gates(1, 112), 5);
        Check.due("not even two", x.gates(1, 113), BrinePans.NONE);
        x = Check.made("MN064N300N204N064N204S2");
        Check.due("two bits of 2", x.gates(1, 98), 1);
        Check.due("one gate, rather than two of less", x.gates(1, 104), 8);
        Check.due("gates(0, 0)", x.gates(0, 0), BrinePans.BAD);
        Check.due("gates(10, 0)", x.gates(10, 0), BrinePans.BAD);
        Check.due("gates(1, -1)", x.gates(1, -1), BrinePans.BAD);
        Check.due("gates(1, 1000)", x.gates(1, 1000), BrinePans.BAD);
        Check.due("gates(1, 999)", x.gates(1, 999), BrinePans.NONE);
        Check.due("one pan", Check.made("MN005").gates(1, 50), 0);
    }

    private static void judge() {
        int none = BrinePans.NONE;
        BrinePans x = Check.made("MN019N150N020S1");
        dueJudged(x, 1, 0, none);
        dueJudged(x, 1, 101, none);
        dueJudged(x, 1, 105, none);
        dueJudged(x, 1, 106, 0);
        dueJudged(x, 1, 100, 0);
        dueJudged(x, 1, 201, none);
        dueJudged(x, 1, 202, 0);
        dueJudged(x, 1, 200, 0);
        dueJudged(x, 1, 214, none);
        dueJudged(x, 1, 215, 0);
        dueJudged(x, 1, 221, 0);
        dueJudged(x, 1, 291, 0);
        dueJudged(x, 1, 301, none);
        dueJudged(x, 1, 302, 0);
        dueJudged(x, 2, 301301, none);
        dueJudged(x, 1, 400, none);
        dueJudged(x, 1, 401, 0);
        dueJudged(x, 1, 403, 0);
        dueJudged(x, 1, 515, none);
        dueJudged(x, 1, 516, 0);
        dueJudged(x, 1, 530, 0);
        dueJudged(x, 1, 608, none);
        dueJudged(x, 1, 609, 0);
        dueJudged(x, 1, 620, none);
        dueJudged(x, 1, 630, 0);
        dueJudged(x, 2, 400400, 1);
        dueJudged(x, 2, 400601, 1);
        dueJudged(x, 2, 609, none);
        dueJudged(x, 2, 609000, 0);
        dueJudged(x, 4, 300000516515L, 2);
        dueJudged(x, 4, 300000515500L, none);
        dueJudged(x, 4, 300000515501L, 3);
        dueJudged(x, 4, 202000000000L, 0);
    }

    private static void dueJudged(BrinePans x, int n, long row, int want) {
        Check.due("judge(" + n + ", " + row + ")", x.judge(n, row), want);
    }

    private static void judgeRefusals() {
        BrinePans x = Check.made("MN019N150S1");
        int bad = BrinePans.BAD;
        dueJudged(x, 0, 0, bad);
        dueJudged(x, 5, 0, bad);
        dueJudged(x, Integer.MIN_VALUE, 0, bad);
        dueJudged(x, 1, -1, bad);
        dueJudged(x, 1, 1000, bad);
        dueJudged(x, 2, 1000000, bad);
        dueJudged(x, 3, 1000000000, bad);
        dueJudged(x, 4, 1000000000000L, bad);
        dueJudged(x, 4, Long.MAX_VALUE, bad);
        dueJudged(x, 4, Long.MIN_VALUE, bad);
        // three figures that tell no doing can not be
        dueJudged(x, 1, 700, 0);
        dueJudged(x, 1, 999, 0);
        dueJudged(x, 1, 1, 0);
        dueJudged(x, 1, 10, 0);
        dueJudged(x, 1, 111, 0);
        dueJudged(x, 1, 310, 0);
        dueJudged(x, 1, 410, 0);
        dueJudged(x, 2, 800, 1);
    }

    private static void share() {
        BrinePans x = Check.made("MN064N204S2");
        dueShare(x, 0, 40, 1);
        dueShare(x, 1, 40, 1);
        x = Check.made("MN060N004");
        x.turn(0);
        dueShare(x, 0, -16, 1);
        dueShare(x, 1, 24, 1);
        x = Check.made("MN010N001N001");
        x.turn(0);
        x.turn(1);
        // sets: 0 0, 1 10, 2 10, 01 2, 02 2, 12 20, 012 12
        dueShare(x, 0, -16, 3);
        dueShare(x, 1, 26, 3);
        dueShare(x, 2, 26, 3);
        // pans that hold nothing, and to which nothing comes, take no part
        String more = "";
        for (int pans = 4; pans <= 6; pans++) {
            more += "N000";
            x = Check.made("MN010N001N001" + more);
            x.turn(0);
            x.turn(1);
            dueShare(x, 0, -16, 3);
            dueShare(x, 2, 26, 3);
            dueShare(x, pans - 1, 0, 1);
        }
        x = Check.made("MN000N000");
        dueShare(x, 0, 0, 1);
        Check.due("share(2, true)", x.share(2, true), BrinePans.UNKNOWN);
        Check.due("share(-1, false)", x.share(-1, false), BrinePans.UNKNOWN);
        x = Check.made("MN069S1S1S1S0");
        // behind 4 days 3 inches are left
        dueShare(x, 0, 66, 1);
    }

    private static void dueShare(BrinePans x, int pan, int above, int below) {
        Check.due("share(" + pan + ", true)", x.share(pan, true), above);
        Check.due("share(" + pan + ", false)", x.share(pan, false), below);
    }

    private static void nothingChanges() {
        BrinePans x = Check.made("MN035N149N261N304S2R1");
        x.turn(1);
        x.sea(2);
        String before = Check.seen(x);
        x.later(1, 9, 2);
        x.crust(9);
        x.ripe(1);
        x.best(3, 1);
        x.gates(3, 100);
        x.judge(4, 101000301201L);
        x.share(2, true);
        x.rests(0, 1, 0);
        x.clouds(1, 3, 20, 4, true);
        Check.due("nothing changed", Check.seen(x).equals(before) ? 1 : 0, 1);
    }
}
