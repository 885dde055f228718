/** Promise 17, best: one test for each boundary that the document names. */
public final class Promise17Test {
    public static void main(String[] args) {
        days();
        what();
        noneToLet();
        oneInch();
        nineInches();
        waterAlone();
        asItCanBe();
        notFromTheLast();
        ofLikeOnesNone();
        thenTheLeast();
        gatesAsTheyAre();
        nothingIsChanged();
        Check.end();
    }

    private static void dueBest(BrinePans x, int n, int much, int which) {
        Check.due("best(" + n + ", 0)", x.best(n, 0), much);
        Check.due("best(" + n + ", 1)", x.best(n, 1), which);
    }

    private static void days() {
        Check.sentence("promise 17, n DAYS (1 .. 9); BAD: n");
        Check.Lead lead = Check.marsh("MN069S0S0S0S1S0");
        for (int n : new int[] {0, 10, -1, Integer.MIN_VALUE, Integer.MAX_VALUE}) {
            Check.refused("best(" + n + ", 0)", lead, x -> x.best(n, 0), BrinePans.BAD);
        }
        // the sun takes an inch on days 4 and 9
        int[] want = {42, 42, 42, 50, 50, 50, 50, 50, 58};
        for (int n = 1; n <= 9; n++) {
            dueBest(Check.after(lead), n, want[n - 1], 0);
        }
    }

    private static void what() {
        Check.sentence("promise 17, what = 0, 1; BAD: what");
        for (int what : new int[] {-1, 2, Integer.MIN_VALUE, Integer.MAX_VALUE}) {
            Check.refused("best(1, " + what + ")", Check.marsh("MN064N204S2"), x -> x.best(1, what), BrinePans.BAD);
        }
    }

    private static void noneToLet() {
        Check.sentence("promise 17, or none; 0: none");
        dueBest(new BrinePans(), 1, 0, 0);
        dueBest(Check.made("MN015"), 9, 42, 0);
        dueBest(Check.made("MN005N005"), 1, 100, 0);
        dueBest(Check.made("MN060N009"), 1, 90, 0);
    }

    private static void oneInch() {
        Check.sentence("promise 17, 1 .. 9 inches: 1 is the least");
        // none: 20; 1 .. 6 inches: 23, 18, 14, 13, 4, 0
        dueBest(Check.made("MN362N102S1"), 1, 23, 1);
    }

    private static void nineInches() {
        Check.sentence("promise 17, 1 .. 9 inches: 9 is the most");
        // a full pan takes no rain: 88 in 9 inches; with 8 of them 81 lie there, and none in pan 0
        BrinePans x = Check.made("MN155N103R4");
        x.sea(4);
        dueBest(x, 1, 16, 9);
    }

    private static void waterAlone() {
        Check.sentence("promise 17, inches with which no SALT goes are LET on too");
        // 1 of salt in 2 inches of pan 1: it stays there when 1 inch is let on, and lies there behind a day
        BrinePans x = Check.made("MN061N010N000S1");
        Check.due("let(0, 1)", x.let(0, 1), 1);
        x.sea(1);
        dueBest(x, 1, 1, 11);
    }

    private static void asItCanBe() {
        Check.sentence("promise 17, as it can be");
        // 8 of salt leak away if they are not let on; the next one has room for an inch, or has none
        dueBest(Check.made("MN312N059S1"), 9, 110, 1);
        dueBest(Check.made("MN312N069S1"), 9, 102, 0);
        dueBest(Check.made("MN302N059S1"), 9, 110, 0);
        // room for 8 inches of 9
        BrinePans x = Check.made("MN155N113R4");
        x.sea(4);
        dueBest(x, 1, 9, 8);
    }

    private static void notFromTheLast() {
        Check.sentence("promise 17, LET on to the next one: the last PAN has none");
        dueBest(Check.made("MN000N312S1"), 1, 12, 0);
        dueBest(Check.made("MN000N000N000N000N312N100S1"), 1, 20, 41);
    }

    private static void ofLikeOnesNone() {
        Check.sentence("promise 17, of like ones none");
        // behind 3 days all is dry, whatever is let on
        dueBest(Check.made("MN064N204S2"), 3, 80, 0);
        // behind 2 days that needs two inches let on
        dueBest(Check.made("MN064N204S2"), 2, 80, 2);
    }

    private static void thenTheLeast() {
        Check.sentence("promise 17, of like ones the least");
        // none: 48; 1 .. 6 inches: 56, 64, 72, 72, 64, 56
        dueBest(Check.made("MN064N204S2"), 1, 72, 3);
        dueBest(Check.made("MN064N204N064N204S2"), 1, 72 + 48, 3);
        dueBest(Check.made("MN000N000N064N204S2"), 1, 72, 23);
    }

    private static void gatesAsTheyAre() {
        Check.sentence("promise 17, DAYS go by as GATES are");
        BrinePans x = Check.made("MN064N204S2");
        x.turn(0);
        // none: 56 by the inch that goes on of itself; 2 inches: 13 and 6 go on
        dueBest(x, 1, 72, 2);
    }

    private static void nothingIsChanged() {
        Check.sentence("promise 17, nothing is changed");
        Check.Lead lead = Check.marsh("MN064N204S2").then(x -> {
            x.turn(0);
            x.keep(0);
            x.sea(1);
            x.let(0, 1);
        });
        Check.changesNothing("best(9, 1)", lead, x -> x.best(9, 1));
        Check.changesNothing("best(1, 0)", lead, x -> x.best(1, 0));
    }
}
