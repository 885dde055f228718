/** Promise 24, rests: one test for each boundary that the document names. */
public final class Promise24Test {
    public static void main(String[] args) {
        unknown();
        bad();
        unknownBeforeBad();
        none();
        allFour();
        notMore();
        theFirst();
        threeDays();
        openedOrShutNow();
        othersAsTheyAre();
        nothingIsChanged();
        Check.end();
    }

    private static void dueRests(BrinePans x, int one, int other, int count, int first) {
        Check.due("rests(" + one + ", " + other + ", 0)", x.rests(one, other, 0), count);
        Check.due("rests(" + one + ", " + other + ", 1)", x.rests(one, other, 1), first);
    }

    private static void refused(int one, int other, int what, int want) {
        String call = "rests(" + one + ", " + other + ", " + what + ")";
        Check.refused(call, Check.marsh("MN020N020N000"), x -> x.rests(one, other, what), want);
    }

    private static void unknown() {
        Check.sentence("promise 24, UNKNOWN: both");
        for (int gate : new int[] {-1, 2, 3, 32, Integer.MIN_VALUE, Integer.MAX_VALUE}) {
            refused(gate, 0, 0, BrinePans.UNKNOWN);
            refused(0, gate, 1, BrinePans.UNKNOWN);
        }
        // shut, shut: 2, 0; shut, open: 0, 2; open, shut: 4, 0; open, open: 1, 3
        dueRests(Check.made("MN020N020N000"), 0, 1, 1, 11);
        Check.due("two pans have one gate", Check.made("MN020N020").rests(0, 1, 0), BrinePans.UNKNOWN);
        Check.due("no pan", new BrinePans().rests(0, 1, 0), BrinePans.UNKNOWN);
        Check.due("the last of six", Check.made("M" + "N000".repeat(6)).rests(0, 5, 0), BrinePans.UNKNOWN);
        Check.due("the gates of six", Check.made("M" + "N000".repeat(6)).rests(0, 4, 0), 4);
    }

    private static void bad() {
        Check.sentence("promise 24, BAD: both are one, what");
        refused(0, 0, 0, BrinePans.BAD);
        refused(1, 1, 1, BrinePans.BAD);
        for (int what : new int[] {-1, 2, Integer.MIN_VALUE, Integer.MAX_VALUE}) {
            refused(0, 1, what, BrinePans.BAD);
        }
    }

    private static void unknownBeforeBad() {
        Check.sentence("promise 24, of UNKNOWN and BAD what is told first");
        refused(2, 2, 0, BrinePans.UNKNOWN);
        refused(-1, -1, 2, BrinePans.UNKNOWN);
        refused(0, 2, 2, BrinePans.UNKNOWN);
    }

    private static void none() {
        Check.sentence("promise 24, how many: 0; the first one: NONE");
        // shut, shut: 4, 20; shut, open: 4, 7; open, shut: 6, 13; open, open: 3, 18
        dueRests(Check.made("MN152N032N020S1"), 0, 1, 0, BrinePans.NONE);
    }

    private static void allFour() {
        Check.sentence("promise 24, how many: all pairs");
        dueRests(Check.made("MN000N000N000"), 0, 1, 4, 0);
        dueRests(Check.made("MN000N000N000N000N000N000"), 4, 0, 4, 0);
    }

    private static void notMore() {
        Check.sentence("promise 24, neither has more by another choice alone");
        // shut, shut: 0, 0; shut, open: 0, 0; open, shut: 3, 0; open, open: 0, 3
        dueRests(Check.made("MN030N000N000"), 0, 1, 2, 1);
    }

    private static void theFirst() {
        Check.sentence("promise 24, the first one (10 times the one and the other)");
        dueRests(Check.made("MN030N000N000"), 1, 0, 2, 10);
        dueRests(Check.made("MN020N020N000"), 1, 0, 1, 11);
    }

    private static void threeDays() {
        Check.sentence("promise 24, then there are 3 DAYS");
        dueRests(Check.made("MN010N000N000S0S0S4"), 0, 1, 4, 0);
        dueRests(Check.made("MN010N000N000S0S0S0S4"), 0, 1, 2, 1);
        BrinePans x = Check.made("MN010N000N000S0S0S0S4");
        x.day();
        dueRests(x, 0, 1, 4, 0);
    }

    private static void openedOrShutNow() {
        Check.sentence("promise 24, each is opened (1), or shut (0), now, as it may be");
        BrinePans x = Check.made("MN030N000N000");
        for (int gate : new int[] {0, 1, 0, 1}) {
            dueRests(x, 0, 1, 2, 1);
            x.turn(gate);
        }
    }

    private static void othersAsTheyAre() {
        Check.sentence("promise 24, another GATE is as it is");
        BrinePans x = Check.made("MN000N010N000N000");
        dueRests(x, 0, 2, 4, 0);
        x.turn(1);
        // the inch of pan 1 comes to pan 2, and to pan 3 if gate 2 is open
        dueRests(x, 0, 2, 2, 1);
        dueRests(x, 2, 0, 2, 10);
    }

    private static void nothingIsChanged() {
        Check.sentence("promise 24, nothing is changed");
        Check.Lead lead = Check.marsh("MN365N121N204S1R4").then(x -> {
            x.turn(0);
            x.keep(0);
            x.day();
        });
        Check.changesNothing("rests(0, 1, 0)", lead, x -> x.rests(0, 1, 0));
        Check.changesNothing("rests(1, 0, 1)", lead, x -> x.rests(1, 0, 1));
    }
}
