/** Promise 22, forget: one test for each boundary that the document names. */
public final class Promise22Test {
    public static void main(String[] args) {
        howMuch();
        nothingIsFound();
        allElseStays();
        Check.end();
    }

    private static void howMuch() {
        Check.sentence("promise 22, how much there was");
        BrinePans x = new BrinePans();
        Check.due("none", x.forget(), 0);
        x.find(0, 1, 1);
        Check.due("one", x.forget(), 1);
        for (int i = 0; i < 7; i++) {
            x.find(0, 1, 1);
        }
        Check.due("six", x.forget(), 6);
        Check.due("a second time", x.forget(), 0);
    }

    private static void nothingIsFound() {
        Check.sentence("promise 22, nothing is FOUND");
        BrinePans x = new BrinePans();
        x.find(0, 0, 0);
        Check.due("salts(0) before", x.salts(0), 0);
        x.forget();
        Check.due("about(11)", x.about(11), 0);
        Check.due("salts(0)", x.salts(0), 100);
        Check.due("salts(1)", x.salts(1), 0);
        for (int i = 1; i <= 6; i++) {
            Check.due("find " + i, x.find(0, i, 1), i);
        }
        Check.due("the first salt", x.salts(1), 6);
    }

    private static void allElseStays() {
        Check.sentence("promise 22, all else stays");
        Check.Lead lead = Check.marsh("MN019N020S1").then(x -> {
            x.turn(0);
            x.keep(0);
            x.day();
            x.seed(8);
        });
        Check.changesNothing("forget() of none", lead, x -> x.forget());
        Check.changesNothing("forget() of one", lead, x -> x.find(0, 5, 1) + x.forget());
    }
}
