/** Promises 21 to 23: what is found of an unknown pan, and its salts. */
public final class FoundTest {
    public static void main(String[] args) {
        find();
        salts();
        forget();
        Check.end();
    }

    private static void find() {
        BrinePans x = new BrinePans();
        int bad = BrinePans.BAD;
        Check.due("find(-1, 0, 0)", x.find(-1, 0, 0), bad);
        Check.due("find(10, 0, 0)", x.find(10, 0, 0), bad);
        Check.due("find(0, -1, 0)", x.find(0, -1, 0), bad);
        Check.due("find(0, 100, 0)", x.find(0, 100, 0), bad);
        Check.due("find(0, 0, -1)", x.find(0, 0, -1), bad);
        Check.due("find(0, 0, 2)", x.find(0, 0, 2), bad);
        Check.due("nothing is found", x.about(11), 0);
        for (int i = 1; i <= 6; i++) {
            Check.due("find(9, 99, 0)", x.find(9, 99, 0), i);
        }
        Check.due("the seventh", x.find(0, 0, 0), BrinePans.FULL);
        Check.due("a bad seventh", x.find(0, 0, 2), bad);
        Check.due("six", x.about(11), 6);
    }

    private static void salts() {
        dueSalts(0, 99, 1, 1, 99);
        dueSalts(0, 99, 0, 99, 0);
        dueSalts(0, 0, 1, 100, 0);
        dueSalts(0, 0, 0, 0, BrinePans.NONE);
        dueSalts(9, 27, 1, 1, 99);
        dueSalts(9, 28, 1, 0, BrinePans.NONE);
        dueSalts(3, 5, 1, 71, 29);
        dueSalts(3, 5, 0, 29, 0);
        dueSalts(3, 1, 0, 25, 0);
        BrinePans x = new BrinePans();
        x.find(2, 10, 1);
        x.find(5, 3, 0);
        Check.due("26 .. 42", x.salts(0), 17);
        Check.due("26", x.salts(1), 26);
        x.find(4, 0, 1);
        Check.due("nothing new", x.salts(0), 17);
        x.find(1, 25, 0);
        Check.due("26 .. 32", x.salts(0), 7);
        Check.due("salts(-1)", x.salts(-1), BrinePans.BAD);
        Check.due("salts(2)", x.salts(2), BrinePans.BAD);
    }

    private static void dueSalts(int w, int c, int more, int count, int first) {
        BrinePans x = new BrinePans();
        x.find(w, c, more);
        String found = "(" + w + ", " + c + ", " + more + ")";
        Check.due("salts(0) by " + found, x.salts(0), count);
        Check.due("salts(1) by " + found, x.salts(1), first);
    }

    private static void forget() {
        BrinePans x = Check.made("MN035");
        Check.due("forget() of none", x.forget(), 0);
        x.find(0, 50, 1);
        x.find(0, 50, 0);
        Check.due("salts(0)", x.salts(0), 0);
        Check.due("forget() of two", x.forget(), 2);
        Check.due("salts(0)", x.salts(0), 100);
        Check.due("salts(1)", x.salts(1), 0);
        Check.due("found", x.about(11), 0);
        Check.due("find behind it", x.find(0, 50, 1), 1);
        Check.due("salts(0)", x.salts(0), 50);
        x.day();
        Check.due("found is no act", x.about(10), 1);
    }
}
