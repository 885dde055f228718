/** Promise 19, judge: one test for each boundary that the document names. */
public final class Promise19Test {
    /** Pan 0: 1 inch, 90 of salt; pan 1, a deep one: 5 inches; pan 2: 2 inches. */
    private static final String THREE = "MN019N150N020S1";

    public static void main(String[] args) {
        howManyDoings();
        rowBelow0();
        figuresAtMost();
        aDay();
        sea();
        let();
        turned();
        raked();
        water();
        crust();
        theFirstPlace();
        oneBehindTheOther();
        shortRows();
        noSuchDoing();
        noPan();
        nothingIsChanged();
        Check.end();
    }

    private static void dueJudged(String text, int n, long row, int want) {
        Check.due("judge(" + n + ", " + row + ") of " + text, Check.made(text).judge(n, row), want);
    }

    private static void canBe(String text, int doing) {
        dueJudged(text, 1, doing, BrinePans.NONE);
    }

    private static void canNotBe(String text, int doing) {
        dueJudged(text, 1, doing, 0);
    }

    private static void howManyDoings() {
        Check.sentence("promise 19, n doings (1 .. 4); BAD: n");
        for (int n : new int[] {0, 5, -1, Integer.MIN_VALUE, Integer.MAX_VALUE}) {
            Check.refused("judge(" + n + ", 0)", Check.marsh(THREE), x -> x.judge(n, 0), BrinePans.BAD);
        }
        for (int n = 1; n <= 4; n++) {
            dueJudged(THREE, n, 0, BrinePans.NONE);
        }
    }

    private static void rowBelow0() {
        Check.sentence("promise 19, row (0 or more); BAD");
        for (long row : new long[] {-1, -101, Long.MIN_VALUE}) {
            Check.refused("judge(1, " + row + ")", Check.marsh(THREE), x -> x.judge(1, row), BrinePans.BAD);
            Check.refused("judge(4, " + row + ")", Check.marsh(THREE), x -> x.judge(4, row), BrinePans.BAD);
        }
        dueJudged(THREE, 1, 0, BrinePans.NONE);
    }

    private static void figuresAtMost() {
        Check.sentence("promise 19, row (3 n figures at most); BAD");
        long over = 1;
        for (int n = 1; n <= 4; n++) {
            int doings = n;
            over *= 1000;
            long first = over;
            Check.refused("judge(" + n + ", " + first + ")", Check.marsh(THREE), x -> x.judge(doings, first),
                BrinePans.BAD);
            Check.refused("judge(" + n + ", the most)", Check.marsh(THREE), x -> x.judge(doings, Long.MAX_VALUE),
                BrinePans.BAD);
            // the most figures there can be, and they tell no doing
            dueJudged(THREE, n, over - 1, 0);
            // a gate turned, and then days
            dueJudged(THREE, n, 301 * (over / 1000), BrinePans.NONE);
        }
    }

    private static void aDay() {
        Check.sentence("promise 19, 0, 0, 0: A DAY");
        canBe(THREE, 0);
        dueJudged(THREE, 2, 500, BrinePans.NONE);
        // the day takes the only inch of pan 0
        dueJudged(THREE, 2, 501, 1);
        dueJudged(THREE, 1, 501, BrinePans.NONE);
    }

    private static void sea() {
        Check.sentence("promise 19, 1, 0, n: SEA");
        canNotBe(THREE, 100);
        canBe(THREE, 101);
        canBe(THREE, 105);
        canNotBe(THREE, 106);
        canBe("MN100", 109);
        canNotBe("MN000", 107);
    }

    private static void let() {
        Check.sentence("promise 19, 2, a PAN, n: LET");
        canNotBe(THREE, 200);
        canBe(THREE, 201);
        canNotBe(THREE, 202);
        // pan 2 has room for 4
        canBe(THREE, 214);
        canNotBe(THREE, 215);
        // the last one, and such as there are not
        canNotBe(THREE, 221);
        canNotBe(THREE, 231);
        canNotBe(THREE, 291);
    }

    private static void turned() {
        Check.sentence("promise 19, 3, 0, a GATE: TURNED");
        canBe(THREE, 300);
        canBe(THREE, 301);
        canNotBe(THREE, 302);
        canNotBe(THREE, 309);
        canNotBe("MN000", 300);
        // with gate 0 open pan 1 has an inch more behind a day; turned twice it is shut
        dueJudged("MN030N010", 3, 300000512, BrinePans.NONE);
        dueJudged("MN030N010", 4, 300300000512L, 3);
    }

    private static void raked() {
        Check.sentence("promise 19, 4, 0, a PAN: RAKED");
        canBe(THREE, 400);
        canNotBe(THREE, 401);
        canNotBe(THREE, 403);
        canNotBe(THREE, 409);
        canNotBe("MN029", 400);
        canBe("MN009", 400);
        canNotBe("MN010", 400);
        dueJudged(THREE, 2, 400400, 1);
    }

    private static void water() {
        Check.sentence("promise 19, 5, a PAN, v: it has v inches of WATER, or more");
        canBe(THREE, 500);
        canBe(THREE, 501);
        canNotBe(THREE, 502);
        canBe(THREE, 514);
        canBe(THREE, 515);
        canNotBe(THREE, 516);
        canBe(THREE, 520);
        canNotBe(THREE, 530);
        canNotBe(THREE, 590);
        dueJudged("MN160", 2, 103509, BrinePans.NONE);
        dueJudged("MN160", 2, 102509, 1);
    }

    private static void crust() {
        Check.sentence("promise 19, 6, a PAN, v: it has ten times v of CRUST, or more");
        // 82 in pan 0
        canBe(THREE, 600);
        canBe(THREE, 608);
        canNotBe(THREE, 609);
        canBe(THREE, 610);
        canNotBe(THREE, 611);
        canBe(THREE, 620);
        canNotBe(THREE, 630);
        canBe("MN009", 609);
        canBe("MN003", 603);
        canNotBe("MN003", 604);
    }

    private static void theFirstPlace() {
        Check.sentence("promise 19, the place of the first that can not be; NONE");
        dueJudged(THREE, 4, 302302302302L, 0);
        dueJudged(THREE, 4, 301302302302L, 1);
        dueJudged(THREE, 4, 301301302302L, 2);
        dueJudged(THREE, 4, 301301301302L, 3);
        dueJudged(THREE, 4, 301301301301L, BrinePans.NONE);
    }

    private static void oneBehindTheOther() {
        Check.sentence("promise 19, each is done behind those before it");
        // 5 inches of sea, or of 3 and 2, and no sixth
        dueJudged(THREE, 2, 105101, 1);
        dueJudged(THREE, 3, 103102506, BrinePans.NONE);
        dueJudged(THREE, 3, 103102101, 2);
        // pan 1 gives 4 inches on, then pan 2 is full
        dueJudged(THREE, 2, 214211, 1);
        // the heap has it, and 8 of its brine lie there behind a day
        dueJudged(THREE, 4, 400601000400L, 1);
        dueJudged(THREE, 4, 400600000400L, BrinePans.NONE);
        dueJudged(THREE, 2, 609, BrinePans.NONE);
    }

    private static void shortRows() {
        Check.sentence("promise 19, three figures each: a short row begins with days");
        dueJudged(THREE, 4, 302, 3);
        dueJudged(THREE, 4, 301, BrinePans.NONE);
        dueJudged(THREE, 4, 302301, 2);
        dueJudged("MN060S1", 4, 503, BrinePans.NONE);
        dueJudged("MN060S1", 4, 504, 3);
    }

    /** The document tells of seven doings; three figures that are none of them can not be. */
    private static void noSuchDoing() {
        Check.sentence("promise 19, three figures that tell no doing can not be");
        for (int doing : new int[] {700, 799, 800, 900, 999, 1, 9, 10, 90, 111, 191, 310, 390, 410, 490}) {
            canNotBe(THREE, doing);
        }
        dueJudged(THREE, 2, 700, 1);
    }

    private static void noPan() {
        Check.sentence("promise 19, of no PAN");
        BrinePans x = new BrinePans();
        Check.due("days", x.judge(4, 0), BrinePans.NONE);
        for (int doing : new int[] {101, 201, 300, 400, 500, 600}) {
            Check.due("judge(1, " + doing + ")", x.judge(1, doing), 0);
        }
    }

    private static void nothingIsChanged() {
        Check.sentence("promise 19, nothing is changed");
        Check.Lead lead = Check.marsh(THREE).then(x -> {
            x.turn(0);
            x.keep(1);
            x.day();
        });
        Check.changesNothing("judge(4, 400101301000)", lead, x -> x.judge(4, 400101301000L));
        Check.changesNothing("judge(4, 101214999999)", lead, x -> x.judge(4, 101214999999L));
    }
}
