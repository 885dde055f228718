/** Promise 12, rake: one test for each boundary that the document names. */
public final class Promise12Test {
    public static void main(String[] args) {
        unknown();
        lateByWater();
        lateByCrust();
        allCrust();
        aSecondTime();
        theHeap();
        theMostOfOnePan();
        isAnAct();
        Check.end();
    }

    private static void unknown() {
        Check.sentence("promise 12, UNKNOWN");
        Check.Lead lead = Check.marsh("MN009N019");
        for (int pan : new int[] {-1, 2, 6, 32, Integer.MIN_VALUE, Integer.MAX_VALUE}) {
            Check.refused("rake(" + pan + ")", lead, x -> x.rake(pan), BrinePans.UNKNOWN);
        }
        Check.due("the first", Check.after(lead).rake(0), 90);
        Check.due("the last", Check.after(lead).rake(1), 82);
        Check.refused("no pan", Check.nothing(), x -> x.rake(0), BrinePans.UNKNOWN);
    }

    private static void lateByWater() {
        Check.sentence("promise 12, a PAN whose WATER is 1, or less; LATE");
        for (int kind = 0; kind <= 3; kind++) {
            Check.due("0 inches", Check.made("MN" + kind + "09").rake(0), 90);
            Check.due("1 inch", Check.made("MN" + kind + "19").rake(0), 82);
            Check.refused("2 inches", Check.marsh("MN" + kind + "29"), x -> x.rake(0), BrinePans.LATE);
            Check.refused("6 inches", Check.marsh("MN" + kind + "69"), x -> x.rake(0), BrinePans.LATE);
        }
    }

    private static void lateByCrust() {
        Check.sentence("promise 12, if there is any; LATE");
        Check.refused("no salt, no water", Check.marsh("MN000"), x -> x.rake(0), BrinePans.LATE);
        Check.refused("no salt, 1 inch", Check.marsh("MN010"), x -> x.rake(0), BrinePans.LATE);
        Check.Lead eight = Check.marsh("MN011N000").then(x -> x.let(0, 1));
        Check.refused("8 in 1 inch", eight, x -> x.rake(1), BrinePans.LATE);
        Check.Lead nine = Check.marsh("MN041N000S3").then(x -> {
            x.sea(2);
            x.let(0, 4);
            x.day();
        });
        Check.due("9 in 1 inch", Check.after(nine).rake(1), 1);
        Check.Lead one = Check.marsh("MN061N000S1").then(x -> {
            x.let(0, 1);
            x.day();
        });
        Check.due("1 in no water", Check.after(one).rake(1), 1);
    }

    private static void allCrust() {
        Check.sentence("promise 12, all CRUST comes, and BRINE stays");
        BrinePans x = Check.made("MN019N009");
        Check.due("at 1 inch", x.rake(0), 82);
        Check.dueSalt("its brine stays", x, 8, 90);
        Check.dueWater("its water stays", x, 1, 0);
        Check.due("at none", x.rake(1), 90);
        Check.dueSalt("nothing stays", x, 8, 0);
    }

    private static void aSecondTime() {
        Check.sentence("promise 12, LATE: all has been RAKED");
        Check.refused("rake(0)", Check.marsh("MN019S1").then(x -> x.rake(0)), x -> x.rake(0), BrinePans.LATE);
        BrinePans x = Check.made("MN019S1");
        x.rake(0);
        x.day();
        Check.due("what its brine leaves", x.rake(0), 8);
    }

    private static void theHeap() {
        Check.sentence("promise 12, it comes to THE HEAP");
        BrinePans x = Check.made("MN019N109N209N319N009N109");
        int heap = 0;
        for (int pan = 0; pan < 6; pan++) {
            heap += pan == 0 || pan == 3 ? 82 : 90;
            x.rake(pan);
            Check.due("the heap", x.about(5), heap);
        }
    }

    /** 999 at once is the most; 9999 on the heap is more than the salt that 512 calls can bring. */
    private static void theMostOfOnePan() {
        Check.sentence("promise 12, how much: of a PAN that has the most");
        BrinePans x = Check.made("MN209N009S4");
        for (int i = 0; i < 91; i++) {
            x.sea(5);
            x.day();
        }
        Check.dueSalt("before", x, 999, 90);
        Check.due("rake(0)", x.rake(0), 999);
        Check.due("the heap", x.about(5), 999);
        Check.due("rake(1)", x.rake(1), 90);
        Check.due("the heap", x.about(5), 1089);
    }

    private static void isAnAct() {
        Check.sentence("promise 12, RAKED is an ACT");
        BrinePans x = Check.made("MN019N009");
        x.rake(1);
        x.rake(0);
        Check.due("acts", x.about(10), 2);
        Check.due("undo()", x.undo(), 1);
        Check.due("the heap", x.about(5), 90);
        Check.dueSalt("as before", x, 90, 0);
    }
}
