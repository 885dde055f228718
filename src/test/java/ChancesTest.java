/** Promises 24 to 29: gates at rest, clouds, years by a seed, slots. */
public final class ChancesTest {
    public static void main(String[] args) {
        rests();
        restRefusals();
        clouds();
        cloudRefusals();
        seedAndYears();
        yearByLot();
        slots();
        Check.end();
    }

    private static void rests() {
        BrinePans x = Check.made("MN020N020N000");
        dueRests(x, 0, 1, 1, 11);
        dueRests(x, 1, 0, 1, 11);
        x.turn(0);
        dueRests(x, 0, 1, 1, 11);
        x = Check.made("MN011N000N000S4");
        dueRests(x, 0, 1, 2, 0);
        dueRests(x, 1, 0, 2, 0);
        x.turn(0);
        dueRests(x, 0, 1, 2, 0);
        x = Check.made("MN011N160N100S1S0S0");
        dueRests(x, 0, 1, 1, 1);
        dueRests(x, 1, 0, 1, 10);
        x = Check.made("MN000N000N000");
        dueRests(x, 0, 1, 4, 0);
        // shut, shut: 4, 20; shut, open: 4, 7; open, shut: 6, 13; open, open: 3, 18
        x = Check.made("MN152N032N020S1");
        dueRests(x, 0, 1, 0, BrinePans.NONE);
    }

    private static void dueRests(BrinePans x, int one, int other, int count, int first) {
        Check.due("rests(" + one + ", " + other + ", 0)", x.rests(one, other, 0), count);
        Check.due("rests(" + one + ", " + other + ", 1)", x.rests(one, other, 1), first);
    }

    private static void restRefusals() {
        BrinePans x = Check.made("MN020N020N000");
        Check.due("rests(2, 0, 0)", x.rests(2, 0, 0), BrinePans.UNKNOWN);
        Check.due("rests(0, 2, 0)", x.rests(0, 2, 0), BrinePans.UNKNOWN);
        Check.due("rests(2, 2, 9)", x.rests(2, 2, 9), BrinePans.UNKNOWN);
        Check.due("rests(-1, 0, 0)", x.rests(-1, 0, 0), BrinePans.UNKNOWN);
        Check.due("rests(0, -1, 0)", x.rests(0, -1, 0), BrinePans.UNKNOWN);
        Check.due("rests(1, 1, 0)", x.rests(1, 1, 0), BrinePans.BAD);
        Check.due("rests(0, 1, 2)", x.rests(0, 1, 2), BrinePans.BAD);
        Check.due("rests(0, 1, -1)", x.rests(0, 1, -1), BrinePans.BAD);
    }

    private static void clouds() {
        BrinePans x = Check.made("MN012S1");
        dueClouds(x, 1, 12, 3, 1, 1);
        dueClouds(x, 1, 13, 3, 7, 10);
        dueClouds(x, 1, 20, 3, 7, 10);
        dueClouds(x, 1, 21, 3, 0, 1);
        dueClouds(x, 2, 20, 3, 91, 100);
        dueClouds(x, 2, 20, 0, 1, 1);
        dueClouds(x, 2, 20, 10, 0, 1);
        dueClouds(x, 6, 20, 9, 468559, 1000000);
        dueClouds(x, 6, 0, 9, 1, 1);
        x = Check.made("MN022S1");
        dueClouds(x, 3, 20, 5, 1, 2);
        dueClouds(x, 3, 20, 4, 81, 125);
        x = Check.made("MN222S1");
        dueClouds(x, 1, 5, 4, 3, 5);
        x = Check.made("MN012R1");
        dueClouds(x, 1, 4, 9, 1, 1);
        dueClouds(x, 1, 5, 9, 0, 1);
        x = Check.made("MN012R1S2");
        dueClouds(x, 2, 20, 4, 3, 5);
        x.day();
        dueClouds(x, 1, 20, 4, 3, 5);
        dueClouds(x, 2, 20, 4, 0, 1);
    }

    private static void dueClouds(BrinePans x, int n, int v, int tenths, int above, int below) {
        String call = "clouds(0, " + n + ", " + v + ", " + tenths + ", ";
        Check.due(call + "true)", x.clouds(0, n, v, tenths, true), above);
        Check.due(call + "false)", x.clouds(0, n, v, tenths, false), below);
    }

    private static void cloudRefusals() {
        BrinePans x = Check.made("MN012S1");
        Check.due("no such pan", x.clouds(1, 0, -1, 11, true), BrinePans.UNKNOWN);
        Check.due("no such pan", x.clouds(-1, 1, 0, 0, true), BrinePans.UNKNOWN);
        Check.due("n = 0", x.clouds(0, 0, 0, 0, true), BrinePans.BAD);
        Check.due("n = 7", x.clouds(0, 7, 0, 0, true), BrinePans.BAD);
        Check.due("v = -1", x.clouds(0, 1, -1, 0, true), BrinePans.BAD);
        Check.due("v = 100", x.clouds(0, 1, 100, 0, true), BrinePans.BAD);
        Check.due("x = -1", x.clouds(0, 1, 0, -1, true), BrinePans.BAD);
        Check.due("x = 11", x.clouds(0, 1, 0, 11, false), BrinePans.BAD);
    }

    private static long stepped(long seed) {
        return seed * 6364136223846793005L + 1442695040888963407L;
    }

    private static void seedAndYears() {
        BrinePans x = Check.made("MN035N100S1");
        Check.due("seed(9)", x.seed(9), 0);
        Check.due("seed(-4)", x.seed(-4), 9);
        Check.due("seed(least)", x.seed(Long.MIN_VALUE), -4);
        Check.due("seed(9)", x.seed(9), Long.MIN_VALUE);
        String before = Check.seen(x);
        Check.due("years(0)", x.years(0), BrinePans.BAD);
        Check.due("years(31)", x.years(31), BrinePans.BAD);
        Check.due("nothing changed", Check.seen(x).equals(before) ? 1 : 0, 1);
        x.years(30);
        long due = 9;
        for (int i = 0; i < 30; i++) {
            due = stepped(due);
        }
        Check.due("the seed went on", x.seed(9), due);
        Check.due("nothing else", Check.seen(x).equals(before) ? 1 : 0, 1);
        Check.due("no acts", x.about(10), 0);
    }

    /** A seed from which one step comes to the lot: such are found by trying them one by one. */
    private static long seedOf(int lot) {
        long seed = 1;
        while ((stepped(seed) >>> 33) % 24 != lot) {
            seed++;
        }
        return seed;
    }

    private static void yearByLot() {
        // crusts now: 26, 30, 0, 0, 5 * 10 - 8 and 10
        BrinePans x = Check.made("MN035N003N000N100N015N001S2");
        int[] want = new int[24];
        for (int lot = 0; lot < 24; lot++) {
            want[lot] = lot < 12 ? 108 : 132;
        }
        // an inch let on from pan 4 takes 8 of brine along, and 8 of the crust of pan 5 into it:
        // 42 there as before, and 18 less 8 here; from the others nothing lies that did not
        want[9] = 108;
        // 3 inches of sea take 24 of the crust, and bring 6
        want[10] = 108 - 18;
        want[11] = 108 - 18;
        for (int lot = 0; lot < 24; lot++) {
            x.seed(seedOf(lot));
            Check.due("a year of lot " + lot, x.years(1), want[lot]);
        }
        yearsByPan();
    }

    private static void yearsByPan() {
        // a gate that is turned, or an inch that is let on, is seen by the day behind it
        BrinePans x = Check.made("MN019N019N019N019N019N019");
        int before = x.crust(0);
        Check.due("crust", before, 6 * 82);
        for (int gate = 0; gate < 5; gate++) {
            x.seed(seedOfTwo(gate, 12));
            // its inch takes 8 along, and the next one has 98 with 2 inches: 16 less than its salt
            Check.due("turned " + gate + ", and a day", x.years(2), 2 * 6 * 82);
        }
        x = Check.made("MN062N002");
        x.seed(seedOfTwo(0, 12));
        // 20 by 6 go: 3 and 20 with 1 inch are 15 of crust
        Check.due("a gate turned, and a day", x.years(2), 20 + 15);
        x.seed(seedOf(5));
        Check.due("an inch let on", x.years(1), 15);
        x.seed(seedOf(1));
        Check.due("no such gate", x.years(1), 20);
        x.seed(seedOf(6));
        Check.due("no such pan to let on from", x.years(1), 20);
        x.seed(seedOf(10));
        Check.due("no room for the sea", x.years(1), 20);
    }

    private static long seedOfTwo(int first, int least) {
        long seed = 1;
        while ((stepped(seed) >>> 33) % 24 != first || (stepped(stepped(seed)) >>> 33) % 24 < least) {
            seed++;
        }
        return seed;
    }

    private static void slots() {
        BrinePans x = Check.made("MN019N020S1");
        Check.due("keep(-1)", x.keep(-1), BrinePans.UNKNOWN);
        Check.due("keep(2)", x.keep(2), BrinePans.UNKNOWN);
        Check.due("again(-1)", x.again(-1), BrinePans.UNKNOWN);
        Check.due("again(2)", x.again(2), BrinePans.UNKNOWN);
        Check.due("again(0) of none", x.again(0), BrinePans.LATE);
        x.rake(0);
        x.turn(0);
        x.day();
        Check.due("keep(1)", x.keep(1), 1);
        Check.due("keep leaves the acts", x.about(10), 3);
        Check.due("again(0) of none", x.again(0), BrinePans.LATE);
        String kept = Check.seen(x);
        x.sea(3);
        x.turn(0);
        x.day();
        x.day();
        Check.due("keep(0)", x.keep(0), 3);
        x.find(1, 1, 1);
        x.seed(5);
        Check.due("again(1)", x.again(1), 1);
        Check.due("no acts", x.about(10), 0);
        Check.due("undo()", x.undo(), BrinePans.LATE);
        Check.due("found stays", x.forget(), 1);
        Check.due("the seed stays", x.seed(0), 5);
        Check.due("as it was", Check.seen(x).equals(kept.replaceFirst("^((\\S+ ){10})3 ", "$10 ")) ? 1 : 0, 1);
        Check.due("gates", x.about(4), 1);
        Check.due("the heap", x.about(5), 82);
        Check.due("again(0)", x.again(0), 3);
        Check.due("gates", x.about(4), 0);
        Check.due("again(1), a second time", x.again(1), 1);
        x.day();
        Check.due("keep(1) over what was kept", x.keep(1), 2);
        x.day();
        Check.due("again(1)", x.again(1), 2);
    }
}
