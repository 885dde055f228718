/** Promise 10, let: one test for each boundary that the document names. */
public final class Promise10Test {
    public static void main(String[] args) {
        unknown();
        bad();
        late();
        full();
        unknownBeforeBad();
        badBeforeLate();
        lateBeforeFull();
        saltCut();
        crustStays();
        noSaltAtAll();
        saltAtMost();
        gatesAreNothingToIt();
        isAnAct();
        Check.end();
    }

    private static void unknown() {
        Check.sentence("promise 10, UNKNOWN: there is no such PAN, or it is the last one");
        Check.Lead lead = Check.marsh("MN011N011N011");
        for (int pan : new int[] {-1, 2, 3, 5, 32, Integer.MIN_VALUE, Integer.MAX_VALUE}) {
            Check.refused("let(" + pan + ", 1)", lead, x -> x.let(pan, 1), BrinePans.UNKNOWN);
        }
        Check.due("the first", Check.after(lead).let(0, 1), 8);
        Check.due("the last but one", Check.after(lead).let(1, 1), 8);
        Check.due("the only one", Check.made("MN011").let(0, 1), BrinePans.UNKNOWN);
        Check.due("no pan", new BrinePans().let(0, 1), BrinePans.UNKNOWN);
        Check.due("the last of six", Check.made("M" + "N011".repeat(6)).let(5, 1), BrinePans.UNKNOWN);
        Check.due("the fifth of six", Check.made("M" + "N011".repeat(6)).let(4, 1), 8);
    }

    private static void bad() {
        Check.sentence("promise 10, n inches (1 .. 9); BAD: n");
        Check.Lead lead = Check.marsh("MN160N100").then(x -> x.sea(3));
        for (int n : new int[] {0, 10, -1, Integer.MIN_VALUE, Integer.MAX_VALUE}) {
            Check.refused("let(0, " + n + ")", lead, x -> x.let(0, n), BrinePans.BAD);
        }
        // 6 of salt in 9 inches
        int[] want = {0, 1, 2, 2, 3, 4, 4, 5, 6};
        for (int n = 1; n <= 9; n++) {
            BrinePans x = Check.after(lead);
            Check.due("let(0, " + n + ")", x.let(0, n), want[n - 1]);
            Check.dueWater("let " + n, x, 9 - n, n);
        }
    }

    private static void late() {
        Check.sentence("promise 10, LATE: it has not so many");
        for (int water = 0; water <= 6; water++) {
            int inches = water;
            Check.Lead lead = Check.marsh("MN0" + water + "0N100");
            if (water > 0) {
                BrinePans x = Check.after(lead);
                Check.due("all it has", x.let(0, water), 0);
                Check.dueWater("all it has", x, 0, water);
            }
            Check.refused("an inch more than " + water, lead, x -> x.let(0, inches + 1), BrinePans.LATE);
        }
    }

    private static void full() {
        Check.sentence("promise 10, FULL: the next one has no room");
        int[] depth = {6, 9, 6, 6};
        for (int kind = 0; kind <= 3; kind++) {
            for (int water = 4; water <= 6; water++) {
                int room = depth[kind] - water;
                Check.Lead lead = Check.marsh("MN161N" + kind + water + "0N000");
                if (room > 0) {
                    BrinePans x = Check.after(lead);
                    Check.due("all of the room", x.let(0, room), 10 * room / 6);
                    Check.dueWater("all of the room", x, 6 - room, depth[kind]);
                }
                Check.refused("an inch more", lead, x -> x.let(0, room + 1), BrinePans.FULL);
            }
        }
    }

    private static void unknownBeforeBad() {
        Check.sentence("promise 10, of UNKNOWN and BAD what is told first");
        Check.refused("let(1, 0)", Check.marsh("MN010N010"), x -> x.let(1, 0), BrinePans.UNKNOWN);
        Check.refused("let(-1, 10)", Check.marsh("MN010N010"), x -> x.let(-1, 10), BrinePans.UNKNOWN);
    }

    private static void badBeforeLate() {
        Check.sentence("promise 10, of BAD, LATE and FULL what is told first");
        Check.refused("let(0, 10)", Check.marsh("MN000N060"), x -> x.let(0, 10), BrinePans.BAD);
        Check.refused("let(0, 0)", Check.marsh("MN000N060"), x -> x.let(0, 0), BrinePans.BAD);
    }

    private static void lateBeforeFull() {
        Check.sentence("promise 10, of LATE and FULL what is told first");
        Check.refused("let(0, 1)", Check.marsh("MN000N060"), x -> x.let(0, 1), BrinePans.LATE);
        Check.refused("let(0, 9)", Check.marsh("MN020N060"), x -> x.let(0, 9), BrinePans.LATE);
        Check.refused("let(0, 2)", Check.marsh("MN020N060"), x -> x.let(0, 2), BrinePans.FULL);
    }

    private static void saltCut() {
        Check.sentence("promise 10, as much SALT as BRINE times n by its WATER (cut)");
        int[] want = {1, 3, 5, 6, 8, 10};
        for (int n = 1; n <= 6; n++) {
            BrinePans x = Check.made("MN061N003");
            Check.due("10 times " + n + " by 6", x.let(0, n), want[n - 1]);
            Check.dueSalt("let " + n, x, 10 - want[n - 1], 30 + want[n - 1]);
        }
    }

    private static void crustStays() {
        Check.sentence("promise 10, CRUST does not go");
        BrinePans x = Check.made("MN055N100");
        Check.due("two of five", x.let(0, 2), 16);
        Check.due("crust", x.pan(0, 4), 10);
        Check.due("the rest", x.let(0, 3), 24);
        Check.due("crust", x.pan(0, 4), 10);
        Check.dueSalt("all brine is gone", x, 10, 40);
    }

    private static void noSaltAtAll() {
        Check.sentence("promise 10, no SALT goes on: 0, and it is an ACT");
        BrinePans x = Check.made("MN010N000");
        Check.due("let(0, 1)", x.let(0, 1), 0);
        Check.due("acts", x.about(10), 1);
        Check.dueWater("let 1", x, 0, 1);
    }

    private static void saltAtMost() {
        Check.sentence("promise 10, of SALT 999 at most (what is more is lost)");
        // three rounds bring 40, with the crust of pan 0; each of the others 10
        BrinePans x = Check.made("MN009N209S4");
        for (int i = 0; i < 81; i++) {
            x.sea(5);
            x.let(0, 5);
            x.day();
        }
        x.sea(5);
        Check.dueSalt("before", x, 10, 990);
        Check.due("8 of 10", x.let(0, 4), 8);
        Check.dueSalt("all of 8", x, 2, 998);
        Check.due("2 go on", x.let(0, 1), 2);
        Check.dueSalt("1 of 2", x, 0, 999);
        x.sea(1);
        Check.due("2 go on", x.let(0, 1), 2);
        Check.dueSalt("none of 2", x, 0, 999);
        Check.dueWater("all the water", x, 0, 6);
    }

    private static void gatesAreNothingToIt() {
        Check.sentence("promise 10, LET is by hand: GATES are nothing to it");
        BrinePans x = Check.made("MN021N000N000");
        Check.due("a shut gate", x.let(0, 1), 5);
        x.turn(0);
        x.turn(1);
        Check.due("an open gate", x.let(0, 1), 5);
        Check.dueWater("no day goes by", x, 0, 2, 0);
        Check.due("gates", x.about(4), 3);
    }

    private static void isAnAct() {
        Check.sentence("promise 10, LET is an ACT");
        BrinePans x = Check.made("MN061N003");
        x.let(0, 4);
        Check.due("acts", x.about(10), 1);
        Check.due("undo()", x.undo(), 0);
        Check.dueWater("as before", x, 6, 0);
        Check.dueSalt("as before", x, 10, 30);
    }
}
