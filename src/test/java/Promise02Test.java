/** Promise 2, write: one test for each boundary that the document names. */
public final class Promise02Test {
    private static final String THIRTY_FIVE = "MN000N000N000N000N000N000S0R1S0R1S0";

    public static void main(String[] args) {
        aByte();
        comesBehind();
        thirtySix();
        badBeforeFull();
        marshStays();
        Check.end();
    }

    private static void aByte() {
        Check.sentence("promise 2, a byte (0 .. 255); BAD");
        Check.Lead lead = Check.written("MN");
        Check.due("write(0)", Check.after(lead).write(0), 3);
        Check.due("write(255)", Check.after(lead).write(255), 3);
        // 333 and -179 would be an M, if only their lowest eight bits counted
        for (int letter : new int[] {-1, 256, 333, -179, Integer.MIN_VALUE, Integer.MAX_VALUE}) {
            Check.refused("write(" + letter + ")", lead, x -> x.write(letter), BrinePans.BAD);
        }
    }

    private static void comesBehind() {
        Check.sentence("promise 2, it comes behind THE TEXT: how long it is");
        BrinePans x = new BrinePans();
        Check.due("the first", x.write('M'), 1);
        Check.due("the second", x.write('S'), 2);
        Check.due("the third", x.write('4'), 3);
        Check.due("fault()", x.fault(), BrinePans.NONE);
        Check.due("marsh()", x.marsh(), 1);
        Check.due("about(3)", x.about(3), 4);
    }

    private static void thirtySix() {
        Check.sentence("promise 2, FULL: there are 36");
        BrinePans x = new BrinePans();
        for (int i = 1; i <= 36; i++) {
            Check.due("byte " + i, x.write(i), i);
        }
        Check.due("byte 37", x.write(37), BrinePans.FULL);
        Check.due("about(12)", x.about(12), 36);
        Check.Lead full = Check.written(THIRTY_FIVE + "X");
        Check.refused("byte 37", full, y -> y.write('M'), BrinePans.FULL);
        Check.refused("byte 37, of 0", full, y -> y.write(0), BrinePans.FULL);
        x.wipe();
        Check.due("a byte behind a wipe", x.write('M'), 1);
    }

    private static void badBeforeFull() {
        Check.sentence("promise 2, of BAD and FULL what is told first");
        Check.Lead full = Check.written(THIRTY_FIVE + "X");
        Check.refused("write(256)", full, x -> x.write(256), BrinePans.BAD);
        Check.refused("write(-1)", full, x -> x.write(-1), BrinePans.BAD);
    }

    private static void marshStays() {
        Check.sentence("promise 2, THE MARSH is as it was until it is made anew");
        BrinePans x = Check.made("MN035");
        Check.write(x, "MN104S1");
        Check.due("about(0)", x.about(0), 1);
        Check.due("about(1)", x.about(1), 0);
        Check.due("pan(0, 2)", x.pan(0, 2), 50);
    }
}
