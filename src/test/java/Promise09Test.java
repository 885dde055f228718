/** Promise 9, sea: one test for each boundary that the document names. */
public final class Promise09Test {
    public static void main(String[] args) {
        unknown();
        bad();
        full();
        unknownBeforeBad();
        badBeforeFull();
        saltOfTheSea();
        saltAtMost();
        intoPan0Alone();
        isAnAct();
        Check.end();
    }

    private static void unknown() {
        Check.sentence("promise 9, UNKNOWN: there is no PAN");
        Check.refused("sea(1) of a new one", Check.nothing(), x -> x.sea(1), BrinePans.UNKNOWN);
        Check.refused("sea(1) of skies alone", Check.marsh("MS1"), x -> x.sea(1), BrinePans.UNKNOWN);
        Check.due("sea(1) of one pan", Check.made("MN000").sea(1), 1);
    }

    private static void bad() {
        Check.sentence("promise 9, n inches (1 .. 9); BAD: n");
        Check.Lead lead = Check.marsh("MN100N000").then(x -> x.turn(0));
        for (int n : new int[] {0, 10, -1, -9, Integer.MIN_VALUE, Integer.MAX_VALUE}) {
            Check.refused("sea(" + n + ")", lead, x -> x.sea(n), BrinePans.BAD);
        }
        for (int n = 1; n <= 9; n++) {
            Check.due("sea(" + n + ")", Check.after(lead).sea(n), n);
        }
    }

    private static void full() {
        Check.sentence("promise 9, if it has room for all; FULL");
        int[] depth = {6, 9, 6, 6};
        for (int kind = 0; kind <= 3; kind++) {
            for (int water = 0; water <= 6; water++) {
                int room = depth[kind] - water;
                Check.Lead lead = Check.marsh("MN" + kind + water + "1N020");
                if (room > 0) {
                    Check.due("all of the room", Check.after(lead).sea(room), depth[kind]);
                }
                if (room < 9) {
                    Check.refused("an inch more", lead, x -> x.sea(room + 1), BrinePans.FULL);
                    Check.refused("9 inches", lead, x -> x.sea(9), BrinePans.FULL);
                }
            }
        }
    }

    private static void unknownBeforeBad() {
        Check.sentence("promise 9, of UNKNOWN and BAD what is told first");
        Check.refused("sea(0)", Check.nothing(), x -> x.sea(0), BrinePans.UNKNOWN);
        Check.refused("sea(10)", Check.marsh("MS1"), x -> x.sea(10), BrinePans.UNKNOWN);
    }

    private static void badBeforeFull() {
        Check.sentence("promise 9, of BAD and FULL what is told first");
        Check.refused("sea(0)", Check.marsh("MN060"), x -> x.sea(0), BrinePans.BAD);
        Check.refused("sea(10)", Check.marsh("MN060"), x -> x.sea(10), BrinePans.BAD);
    }

    private static void saltOfTheSea() {
        Check.sentence("promise 9, each with 2 of SALT");
        for (int n = 1; n <= 9; n++) {
            BrinePans x = Check.made("MN101");
            x.sea(n);
            Check.dueSalt("sea(" + n + ")", x, 10 + 2 * n);
        }
    }

    private static void saltAtMost() {
        Check.sentence("promise 9, of SALT 999 at most (what is more is lost)");
        BrinePans x = Check.made("MN209S4");
        for (int i = 0; i < 90; i++) {
            x.sea(5);
            x.day();
        }
        Check.dueSalt("before", x, 990);
        Check.due("sea(4)", x.sea(4), 4);
        Check.dueSalt("all of 8", x, 998);
        Check.due("sea(1)", x.sea(1), 5);
        Check.dueSalt("1 of 2", x, 999);
        Check.due("sea(1)", x.sea(1), 6);
        Check.dueSalt("none of 2", x, 999);
        Check.due("crust", x.pan(0, 4), 999 - 48);
        x.undo();
        x.undo();
        Check.dueSalt("undone", x, 998);
    }

    private static void intoPan0Alone() {
        Check.sentence("promise 9, they come into PAN 0");
        BrinePans x = Check.made("MN011N111N011");
        x.turn(0);
        x.turn(1);
        Check.due("WATER of PAN 0 then", x.sea(2), 3);
        Check.dueWater("the sea", x, 3, 1, 1);
        Check.dueSalt("the sea", x, 14, 10, 10);
    }

    private static void isAnAct() {
        Check.sentence("promise 9, SEA is an ACT");
        BrinePans x = Check.made("MN011");
        x.sea(5);
        Check.due("acts", x.about(10), 1);
        Check.due("the day", x.about(2), 0);
        Check.due("undo()", x.undo(), 0);
        Check.dueWater("as before", x, 1);
        Check.dueSalt("as before", x, 10);
    }
}
