/** Promise 21, find: one test for each boundary that the document names. */
public final class Promise21Test {
    private static final int[] FAR = {Integer.MIN_VALUE, Integer.MAX_VALUE};

    public static void main(String[] args) {
        inches();
        crust();
        more();
        howMany();
        full();
        badBeforeFull();
        isNoAct();
        Check.end();
    }

    private static Check.Lead two() {
        return x -> {
            x.find(2, 10, 1);
            x.find(5, 3, 0);
        };
    }

    private static void bad(int w, int c, int more) {
        String call = "find(" + w + ", " + c + ", " + more + ")";
        Check.refused(call, two(), x -> x.find(w, c, more), BrinePans.BAD);
    }

    private static void inches() {
        Check.sentence("promise 21, at w (0 .. 9) inches; BAD: w");
        bad(-1, 0, 0);
        bad(10, 0, 0);
        for (int far : FAR) {
            bad(far, 0, 0);
        }
        for (int w = 0; w <= 9; w++) {
            BrinePans x = new BrinePans();
            Check.due("find(" + w + ", 1, 1)", x.find(w, 1, 1), 1);
            Check.due("the first salt", x.salts(1), 8 * w + 1);
        }
    }

    private static void crust() {
        Check.sentence("promise 21, c (0 .. 99) of CRUST; BAD: c");
        bad(0, -1, 0);
        bad(0, 100, 0);
        for (int far : FAR) {
            bad(0, far, 0);
        }
        for (int c : new int[] {0, 1, 98, 99}) {
            BrinePans x = new BrinePans();
            Check.due("find(0, " + c + ", 1)", x.find(0, c, 1), 1);
            Check.due("the first salt", x.salts(1), c);
        }
    }

    private static void more() {
        Check.sentence("promise 21, more (0, 1); BAD: more");
        bad(0, 0, -1);
        bad(0, 0, 2);
        for (int far : FAR) {
            bad(0, 0, far);
        }
        BrinePans x = new BrinePans();
        Check.due("find(0, 40, 1)", x.find(0, 40, 1), 1);
        Check.due("40 .. 99", x.salts(0), 60);
        Check.due("find(0, 50, 0)", x.find(0, 50, 0), 2);
        Check.due("40 .. 49", x.salts(0), 10);
    }

    private static void howMany() {
        Check.sentence("promise 21, how many there are: the same twice, or such as can not both be, too");
        BrinePans x = new BrinePans();
        Check.due("the first", x.find(0, 9, 1), 1);
        Check.due("the same", x.find(0, 9, 1), 2);
        Check.due("against it", x.find(0, 9, 0), 3);
        Check.due("about(11)", x.about(11), 3);
    }

    private static void full() {
        Check.sentence("promise 21, 6 such at most; FULL: 6");
        BrinePans x = new BrinePans();
        for (int i = 1; i <= 6; i++) {
            Check.due("find " + i, x.find(0, 10 * i, 1), i);
            Check.due("the first salt", x.salts(1), 10 * i);
        }
        Check.due("find 7", x.find(0, 70, 1), BrinePans.FULL);
        Check.due("the first salt", x.salts(1), 60);
        Check.refused("find 7", six(), y -> y.find(0, 0, 0), BrinePans.FULL);
        x.forget();
        Check.due("find behind forget()", x.find(0, 70, 1), 1);
    }

    private static Check.Lead six() {
        return two().then(two()).then(two());
    }

    private static void badBeforeFull() {
        Check.sentence("promise 21, of BAD and FULL what is told first");
        Check.refused("find(10, 0, 0)", six(), x -> x.find(10, 0, 0), BrinePans.BAD);
        Check.refused("find(0, 100, 0)", six(), x -> x.find(0, 100, 0), BrinePans.BAD);
        Check.refused("find(0, 0, 2)", six(), x -> x.find(0, 0, 2), BrinePans.BAD);
    }

    private static void isNoAct() {
        Check.sentence("promise 21, an unknown PAN: nothing is changed in THE MARSH");
        BrinePans x = Check.made("MN035");
        x.day();
        x.find(3, 26, 1);
        Check.due("acts", x.about(10), 1);
        Check.due("undo()", x.undo(), 0);
        Check.due("found", x.about(11), 1);
        Check.dueSalt("the pan", x, 50);
    }
}
