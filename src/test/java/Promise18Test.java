/** Promise 18, gates: one test for each boundary that the document names. */
public final class Promise18Test {
    /** Behind a day: 96; by gate 0 98, by gates 0 and 1 104, by gate 3 104, by 0 and 3 106, by 0, 1 and 3 112. */
    private static final String FIVE = "MN064N300N204N064N204S2";

    public static void main(String[] args) {
        days();
        least();
        most();
        vOrMore();
        fewest();
        leastOfLikeOnes();
        allOthersShut();
        none();
        noGate();
        nothingIsChanged();
        Check.end();
    }

    private static void days() {
        Check.sentence("promise 18, n DAYS (1 .. 9); BAD: n");
        Check.Lead lead = Check.marsh("MN069S0S0S0S1S0");
        for (int n : new int[] {0, 10, -1, Integer.MIN_VALUE, Integer.MAX_VALUE}) {
            Check.refused("gates(" + n + ", 0)", lead, x -> x.gates(n, 0), BrinePans.BAD);
        }
        // the sun takes an inch on days 4 and 9
        int[] want = {42, 42, 42, 50, 50, 50, 50, 50, 58};
        for (int n = 1; n <= 9; n++) {
            Check.due("gates(" + n + ", all)", Check.after(lead).gates(n, want[n - 1]), 0);
            Check.due("gates(" + n + ", more)", Check.after(lead).gates(n, want[n - 1] + 1), BrinePans.NONE);
        }
    }

    private static void least() {
        Check.sentence("promise 18, v (0 .. 999): the least; BAD: v");
        Check.due("gates(1, 0)", Check.made("MN060N060S1").gates(1, 0), 0);
        Check.due("gates(1, 1)", Check.made("MN060N060S1").gates(1, 1), BrinePans.NONE);
        for (int v : new int[] {-1, Integer.MIN_VALUE}) {
            Check.refused("gates(1, " + v + ")", Check.marsh(FIVE), x -> x.gates(1, v), BrinePans.BAD);
        }
    }

    private static void most() {
        Check.sentence("promise 18, v (0 .. 999): the most; BAD: v");
        for (int v : new int[] {1000, Integer.MAX_VALUE}) {
            Check.refused("gates(1, " + v + ")", Check.marsh(FIVE), x -> x.gates(1, v), BrinePans.BAD);
        }
        BrinePans x = Check.made("MN209N009N009N009N009N009S4");
        for (int i = 0; i < 45; i++) {
            x.sea(5);
            x.day();
        }
        x.sea(4);
        x.day();
        Check.due("of 998: gates(1, 998)", x.gates(1, 998), 0);
        Check.due("of 998: gates(1, 999)", x.gates(1, 999), BrinePans.NONE);
        x.sea(1);
        x.day();
        Check.due("of 1000: gates(1, 999)", x.gates(1, 999), 0);
        Check.due("of 1000: gates(1, 1000)", x.gates(1, 1000), BrinePans.BAD);
    }

    private static void vOrMore() {
        Check.sentence("promise 18, v or more");
        BrinePans x = Check.made("MN064N204S2");
        Check.due("gates(1, 48)", x.gates(1, 48), 0);
        Check.due("gates(1, 49)", x.gates(1, 49), 1);
        Check.due("gates(1, 56)", x.gates(1, 56), 1);
        Check.due("gates(1, 57)", x.gates(1, 57), BrinePans.NONE);
    }

    private static void fewest() {
        Check.sentence("promise 18, the fewest GATES");
        BrinePans x = Check.made(FIVE);
        Check.due("none", x.gates(1, 96), 0);
        Check.due("the first alone", x.gates(1, 97), 1);
        Check.due("one gate, though two of smaller numbers do it", x.gates(1, 104), 8);
        Check.due("two", x.gates(1, 105), 9);
        Check.due("two", x.gates(1, 106), 9);
        Check.due("three", x.gates(1, 107), 11);
        Check.due("three", x.gates(1, 112), 11);
        Check.due("no more", x.gates(1, 113), BrinePans.NONE);
    }

    private static void leastOfLikeOnes() {
        Check.sentence("promise 18, of like ones the least");
        BrinePans x = Check.made("MN064N204N064N204S2");
        Check.due("gate 0, not gate 2", x.gates(1, 104), 1);
        Check.due("both", x.gates(1, 105), 5);
    }

    private static void allOthersShut() {
        Check.sentence("promise 18, all others shut");
        BrinePans x = Check.made(FIVE);
        x.turn(3);
        x.turn(0);
        Check.due("none, though two are open", x.gates(1, 96), 0);
        Check.due("one, though two are open", x.gates(1, 97), 1);
        Check.due("open as they are", x.crust(1), 106);
    }

    private static void none() {
        Check.sentence("promise 18, NONE");
        BrinePans x = Check.made("MN064N204S2");
        Check.due("gates(9, 80)", x.gates(9, 80), 0);
        Check.due("gates(9, 81)", x.gates(9, 81), BrinePans.NONE);
        Check.due("gates(9, 999)", x.gates(9, 999), BrinePans.NONE);
    }

    private static void noGate() {
        Check.sentence("promise 18, there is no GATE");
        Check.due("no pan, 0", new BrinePans().gates(1, 0), 0);
        Check.due("no pan, 1", new BrinePans().gates(1, 1), BrinePans.NONE);
        Check.due("one pan, all of it", Check.made("MN005").gates(1, 50), 0);
        Check.due("one pan, more", Check.made("MN005").gates(1, 51), BrinePans.NONE);
    }

    private static void nothingIsChanged() {
        Check.sentence("promise 18, nothing is changed");
        Check.Lead lead = Check.marsh(FIVE).then(x -> {
            x.turn(3);
            x.keep(0);
            x.day();
        });
        Check.changesNothing("gates(9, 999)", lead, x -> x.gates(9, 999));
        Check.changesNothing("gates(1, 0)", lead, x -> x.gates(1, 0));
    }
}
