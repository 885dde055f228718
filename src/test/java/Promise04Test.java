/** Promise 4, fault: one test for each boundary of the text. */
public final class Promise04Test {
    private static final String SIX_PANS = "MN000N100N200N300N000N000";
    private static final String FIVE_SKIES = "S0R1S4R4S0";

    public static void main(String[] args) {
        emptyText();
        mComesFirst();
        things();
        kinds();
        inchesOfWater();
        tensOfSalt();
        suns();
        rains();
        sixPans();
        fiveSkies();
        pansAndSkiesApart();
        theFirstFault();
        whateverCameBehind();
        onlyNotAtItsEnd();
        lengthSetAside();
        Check.end();
    }

    private static void dueFault(String text, int want) {
        Check.Lead lead = Check.written(text);
        Check.due("fault of " + text, Check.after(lead).fault(), want);
    }

    /** Every byte behind a start: want, if it is from .. to; else the place where it stands. */
    private static void dueFaults(String start, char from, char to, int want) {
        for (char letter = 0; letter <= 255; letter++) {
            boolean isRight = letter >= from && letter <= to;
            dueFault(start + letter, isRight ? want : start.length());
        }
    }

    private static void emptyText() {
        Check.sentence("promise 4, an empty text is only not at its end");
        dueFault("", 0);
        Check.due("of a new object", new BrinePans().fault(), 0);
    }

    private static void mComesFirst() {
        Check.sentence("promise 4, M, then THINGS");
        dueFaults("", 'M', 'M', BrinePans.NONE);
        dueFault("N000", 0);
        dueFault("S0M", 0);
        dueFault("MM", 1);
    }

    private static void things() {
        Check.sentence("promise 4, THINGS, none or more: N, S, R");
        for (char letter = 0; letter <= 255; letter++) {
            boolean isThing = letter == 'N' || letter == 'S' || letter == 'R';
            dueFault("M" + letter, isThing ? 2 : 1);
            dueFault("MS0" + letter, isThing ? 4 : 3);
            dueFault("MN000" + letter, isThing ? 6 : 5);
        }
        dueFault("M", BrinePans.NONE);
    }

    private static void kinds() {
        Check.sentence("promise 4, KIND k (0 .. 3)");
        dueFaults("MN", '0', '3', 3);
    }

    private static void inchesOfWater() {
        Check.sentence("promise 4, w (0 .. 6) inches of WATER, of a DEEP one too");
        for (char kind = '0'; kind <= '3'; kind++) {
            dueFaults("MN" + kind, '0', '6', 4);
        }
    }

    private static void tensOfSalt() {
        Check.sentence("promise 4, s (0 .. 9) of SALT");
        dueFaults("MN06", '0', '9', BrinePans.NONE);
        dueFaults("MN30", '0', '9', BrinePans.NONE);
    }

    private static void suns() {
        Check.sentence("promise 4, SUN e (0 .. 4)");
        dueFaults("MS", '0', '4', BrinePans.NONE);
    }

    private static void rains() {
        Check.sentence("promise 4, RAIN r (1 .. 4)");
        dueFaults("MR", '1', '4', BrinePans.NONE);
    }

    private static void sixPans() {
        Check.sentence("promise 4, PANS, 6 at most");
        dueFault(SIX_PANS, BrinePans.NONE);
        dueFault(SIX_PANS + "N", 25);
        dueFault(SIX_PANS + "N000", 25);
        dueFault(SIX_PANS.substring(0, 21) + "S1N000", BrinePans.NONE);
        dueFault(SIX_PANS + "S1N", 27);
    }

    private static void fiveSkies() {
        Check.sentence("promise 4, SKIES, 5 at most, S and R together");
        for (int rains = 0; rains < 32; rains++) {
            StringBuilder five = new StringBuilder("M");
            for (int i = 0; i < 5; i++) {
                five.append((rains >> i & 1) == 1 ? "R1" : "S0");
            }
            dueFault(five.toString(), BrinePans.NONE);
            dueFault(five + "S", 11);
            dueFault(five + "R", 11);
            dueFault(five + "S0", 11);
        }
    }

    private static void pansAndSkiesApart() {
        Check.sentence("promise 4, PANS and SKIES are counted each for itself");
        dueFault(SIX_PANS + FIVE_SKIES, BrinePans.NONE);
        dueFault("M" + FIVE_SKIES + SIX_PANS.substring(1), BrinePans.NONE);
        dueFault(SIX_PANS + "S", 26);
        dueFault(SIX_PANS + "R", 26);
        dueFault("M" + FIVE_SKIES + "N", 12);
    }

    private static void theFirstFault() {
        Check.sentence("promise 4, the place of the first byte");
        dueFault("XYZ", 0);
        dueFault("MXN9S9", 1);
        dueFault("MN4S5", 2);
        dueFault("MN07X", 3);
        dueFault("MN00:N4", 4);
        dueFault("MN000S9X", 6);
    }

    private static void whateverCameBehind() {
        Check.sentence("promise 4, whatever came behind it");
        BrinePans x = Check.after(Check.written("MN0"));
        Check.due("before", x.fault(), 3);
        x.write('N');
        Check.due("a fault", x.fault(), 3);
        for (char letter : "000MN000".toCharArray()) {
            x.write(letter);
            Check.due("a byte behind it", x.fault(), 3);
        }
    }

    private static void onlyNotAtItsEnd() {
        Check.sentence("promise 4, its length, if it is only not at its end");
        String text = "MN123S4R1";
        int none = BrinePans.NONE;
        int[] want = {0, none, 2, 3, 4, none, 6, none, 8, none};
        BrinePans x = new BrinePans();
        for (int length = 0; length < want.length; length++) {
            Check.due("the first " + length + " bytes", x.fault(), want[length]);
            if (length < text.length()) {
                x.write(text.charAt(length));
            }
        }
    }

    /** No text that can become a marsh is longer than 35, so 36 bytes have a fault among them. */
    private static void lengthSetAside() {
        Check.sentence("promise 4, its length set aside");
        for (char letter = 0; letter <= 255; letter++) {
            dueFault(SIX_PANS + FIVE_SKIES + letter, 35);
        }
        dueFault("M" + "N000".repeat(5) + "S0".repeat(5) + "N06", 34);
        dueFault("M" + "N000".repeat(5) + "S0".repeat(5) + "N069", BrinePans.NONE);
        dueFault("M".repeat(36), 1);
        dueFault("X".repeat(36), 0);
    }
}
