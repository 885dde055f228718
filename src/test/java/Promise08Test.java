/** Promise 8, day: one test for each boundary that the document names. */
public final class Promise08Test {
    public static void main(String[] args) {
        ifItHasAny();
        ifTheNextHasRoom();
        aDeepNext();
        byNumbers();
        openOrShut();
        theLastHasNoGate();
        saltCut();
        saltAtMost();
        leaks();
        leaksAreLost();
        sunOrAll();
        darkOnes();
        noSky();
        rain();
        rainLeavesSalt();
        eachPanOfSix();
        skiesComeRound();
        inThisOrder();
        crustThen();
        ofNoPan();
        isAnAct();
        Check.end();
    }

    private static BrinePans dayOf(String text, int... gates) {
        BrinePans x = Check.made(text);
        for (int gate : gates) {
            x.turn(gate);
        }
        x.day();
        return x;
    }

    private static void dueDay(String text, int water) {
        Check.dueWater("a day of " + text, dayOf(text), water);
    }

    private static void ifItHasAny() {
        Check.sentence("promise 8, (a) 1 inch, if it has any");
        BrinePans x = dayOf("MN001N000", 0);
        Check.dueWater("none", x, 0, 0);
        Check.dueSalt("none", x, 10, 0);
        x = dayOf("MN011N000", 0);
        Check.dueWater("1 inch", x, 0, 1);
        Check.dueSalt("1 inch", x, 2, 8);
        x = dayOf("MN021N000", 0);
        Check.dueWater("2 inches", x, 1, 1);
        Check.dueSalt("2 inches", x, 5, 5);
    }

    private static void ifTheNextHasRoom() {
        Check.sentence("promise 8, (a) and the next one has room for it");
        for (int kind : new int[] {0, 2, 3}) {
            BrinePans x = dayOf("MN011N" + kind + "50", 0);
            Check.dueSalt("room for one", x, 2, kind == 3 ? 7 : 8);
            Check.dueWater("room for one", x, 0, kind == 3 ? 5 : 6);
            x = dayOf("MN011N" + kind + "60", 0);
            Check.dueSalt("no room", x, 10, 0);
            Check.dueWater("no room", x, 1, kind == 3 ? 5 : 6);
        }
    }

    private static void aDeepNext() {
        Check.sentence("promise 8, (a) a DEEP one holds 9");
        BrinePans x = Check.made("MN130N160");
        x.let(0, 2);
        x.turn(0);
        x.day();
        Check.dueWater("8 before", x, 0, 9);
        x = Check.made("MN130N160");
        x.let(0, 3);
        x.sea(1);
        x.turn(0);
        x.day();
        Check.dueWater("9 before", x, 1, 9);
        Check.dueSalt("9 before", x, 2, 0);
    }

    private static void byNumbers() {
        Check.sentence("promise 8, (a) by numbers");
        Check.dueWater("an inch goes two pans on", dayOf("MN010N000N000", 0, 1), 0, 0, 1);
        Check.dueWater("five pans on", dayOf("MN010N000N000N000N000N000", 0, 1, 2, 3, 4), 0, 0, 0, 0, 0, 1);
        Check.dueWater("the next is full at its turn", dayOf("MN020N060N000", 0, 1), 2, 5, 1);
        Check.dueWater("the last is full", dayOf("MN020N050N060", 0, 1), 1, 6, 6);
    }

    private static void openOrShut() {
        Check.sentence("promise 8, (a) each PAN whose GATE is open");
        Check.dueWater("shut", dayOf("MN020N000N020N000"), 2, 0, 2, 0);
        Check.dueWater("gate 0", dayOf("MN020N000N020N000", 0), 1, 1, 2, 0);
        Check.dueWater("gate 2", dayOf("MN020N000N020N000", 2), 2, 0, 1, 1);
        Check.dueWater("opened and shut", dayOf("MN020N000N020N000", 2, 0, 2), 1, 1, 2, 0);
    }

    private static void theLastHasNoGate() {
        Check.sentence("promise 8, the last PAN has no GATE");
        BrinePans x = dayOf("MN035", 0);
        Check.dueWater("one pan", x, 3);
        Check.dueSalt("one pan", x, 50);
        x = dayOf("MN000N035", 0, 1);
        Check.dueWater("the last of two", x, 0, 3);
    }

    private static void saltCut() {
        Check.sentence("promise 8, as much SALT as BRINE by its WATER (cut)");
        Check.dueSalt("10 by 6", dayOf("MN061N000", 0), 9, 1);
        Check.dueSalt("10 by 4", dayOf("MN041N000", 0), 8, 2);
        Check.dueSalt("10 by 5", dayOf("MN051N000", 0), 8, 2);
        Check.dueSalt("48 of 90 by 6", dayOf("MN069N000", 0), 82, 8);
        Check.dueSalt("none", dayOf("MN060N000", 0), 0, 0);
    }

    private static void saltAtMost() {
        Check.sentence("promise 8, of SALT 999 at most (what is more is lost)");
        // three rounds bring 40, with the crust of pan 0; each of the others 10
        BrinePans x = Check.made("MN009N209S4");
        for (int i = 0; i < 81; i++) {
            x.sea(5);
            x.let(0, 5);
            x.day();
        }
        Check.dueSalt("before", x, 0, 990);
        x.turn(0);
        for (int want : new int[] {992, 994, 996, 998, 999, 999}) {
            x.sea(1);
            x.day();
            Check.dueSalt("2 go on", x, 0, want);
        }
    }

    private static void leaks() {
        Check.sentence("promise 8, (b) each LEAKY one that has any lets 1 inch go");
        BrinePans x = dayOf("MN301");
        Check.dueWater("none", x, 0);
        Check.dueSalt("none", x, 10);
        x = dayOf("MN311");
        Check.dueWater("1 inch", x, 0);
        Check.dueSalt("1 inch", x, 2);
        x = dayOf("MN361");
        Check.dueWater("6 inches", x, 5);
        Check.dueSalt("6 inches, cut", x, 9);
        x = dayOf("MN031N131N231N331N331");
        Check.dueWater("no other kind", x, 3, 3, 3, 2, 2);
        Check.dueSalt("no other kind", x, 10, 10, 10, 7, 7);
    }

    private static void leaksAreLost() {
        Check.sentence("promise 8, (b) both are lost");
        BrinePans x = dayOf("MN322N000");
        Check.dueWater("the next has nothing of it", x, 1, 0);
        Check.dueSalt("the next has nothing of it", x, 12, 0);
        Check.due("nor has the heap", x.about(5), 0);
    }

    private static void sunOrAll() {
        Check.sentence("promise 8, (c) SUN e: e inches of WATER, or all");
        for (int e = 0; e <= 4; e++) {
            for (int water = 0; water <= 6; water++) {
                dueDay("MN0" + water + "3S" + e, Math.max(0, water - e));
                dueDay("MN1" + water + "3S" + e, Math.max(0, water - e));
            }
        }
        Check.dueSalt("its salt stays", dayOf("MN033S4"), 30);
    }

    private static void darkOnes() {
        Check.sentence("promise 8, (c) a DARK one 1 more, if e is 1 or more");
        dueDay("MN220S0", 2);
        dueDay("MN220S1", 0);
        dueDay("MN230S1", 1);
        dueDay("MN260S4", 1);
        dueDay("MN250S4", 0);
        dueDay("MN240S4", 0);
        dueDay("MN200S4", 0);
        dueDay("MN320S1", 0);
        dueDay("MN220R1", 3);
    }

    private static void noSky() {
        Check.sentence("promise 8, (c) none: a SUN of 0");
        BrinePans x = dayOf("MN020N120N220N320");
        Check.dueWater("a day without a sky", x, 2, 2, 2, 1);
        Check.due("the day", x.about(2), 1);
    }

    private static void rain() {
        Check.sentence("promise 8, (c) RAIN r: r inches more, or as much as it has room for");
        for (int r = 1; r <= 4; r++) {
            for (int water = 0; water <= 6; water++) {
                dueDay("MN0" + water + "3R" + r, Math.min(6, water + r));
                dueDay("MN1" + water + "3R" + r, Math.min(9, water + r));
                dueDay("MN2" + water + "3R" + r, Math.min(6, water + r));
                dueDay("MN3" + water + "3R" + r, Math.min(6, Math.max(0, water - 1) + r));
            }
        }
    }

    private static void rainLeavesSalt() {
        Check.sentence("promise 8, (c) rain has no SALT");
        BrinePans x = dayOf("MN059N105R4");
        Check.dueSalt("behind rain", x, 90, 50);
        Check.due("crust", x.about(8), 42 + 18);
    }

    private static void eachPanOfSix() {
        Check.sentence("promise 8, (c) each PAN, of six");
        Check.dueWater("a rain", dayOf("MN010N110N210N310N010N110R2"), 3, 3, 3, 2, 3, 3);
        Check.dueWater("a sun", dayOf("MN060N160N260N360N060N160S2"), 4, 4, 3, 3, 4, 4);
        Check.dueWater("six that leak", dayOf("MN360N360N360N360N360N360"), 5, 5, 5, 5, 5, 5);
    }

    private static void skiesComeRound() {
        Check.sentence("promise 8, THE SKY is that which is left of THE DAY by how many there are");
        BrinePans x = Check.made("MN160S1R2S0S3R1");
        int[] want = {5, 7, 7, 4, 5, 4, 6, 6, 3, 4, 3};
        for (int day = 0; day < want.length; day++) {
            x.day();
            Check.dueWater("behind day " + day, x, want[day]);
            Check.due("the day is one more", x.about(2), day + 1);
        }
    }

    private static void inThisOrder() {
        Check.sentence("promise 8, in this order");
        BrinePans x = dayOf("MN312N000", 0);
        Check.dueWater("(a) before (b): the inch is gone on", x, 0, 1);
        Check.dueSalt("(a) before (b): the inch is gone on", x, 12, 8);
        x = dayOf("MN012N300", 0);
        Check.dueWater("(a) before (b): what has come leaks", x, 0, 0);
        Check.dueSalt("(a) before (b): what has come leaks", x, 12, 0);
        x = dayOf("MN012N000S4", 0);
        Check.dueSalt("(a) before (c): not dried yet", x, 12, 8);
        x = dayOf("MN000N000R1", 0);
        Check.dueWater("(a) before (c): not rained yet", x, 1, 1);
        x = dayOf("MN331S2");
        Check.dueSalt("(b) before (c): 10 by 3", x, 7);
        x = dayOf("MN300R1");
        Check.dueWater("(b) before (c): not rained yet", x, 1);
    }

    private static void crustThen() {
        Check.sentence("promise 8, CRUST of all PANS then");
        BrinePans x = Check.made("MN069N129S1R2");
        Check.due("before", x.about(8), 42 + 74);
        Check.due("a sun", x.day(), 50 + 82);
        Check.due("a rain", x.day(), 42 + 66);
        Check.due("that is about(8)", x.about(8), 42 + 66);
    }

    private static void ofNoPan() {
        Check.sentence("promise 8, of no PAN");
        BrinePans x = new BrinePans();
        Check.due("day()", x.day(), 0);
        Check.due("the day", x.about(2), 1);
        Check.due("acts", x.about(10), 1);
    }

    private static void isAnAct() {
        Check.sentence("promise 8, a DAY is an ACT");
        BrinePans x = Check.made("MN361N000S1R2");
        x.turn(0);
        String before = Check.held(x);
        x.day();
        Check.due("acts", x.about(10), 2);
        Check.due("undo()", x.undo(), 1);
        Check.dueText("as before", Check.held(x), before);
        Check.due("the sky is as before", x.about(3), 1);
    }
}
