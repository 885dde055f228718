/** Salt pans in a row, told as a text; see the document for what each call answers. */
public final class BrinePans {
    public static final int UNKNOWN = -1, BAD = -2, LATE = -3, FULL = -4, NONE = -9;

    private static final int MAX_TEXT = 36;
    private static final int MAX_PANS = 6;
    private static final int MAX_SKIES = 5;
    private static final int MAX_ACTS = 14;
    private static final int MAX_FINDS = 6;
    private static final int SLOTS = 2;

    private static final int DEEP = 1;
    private static final int DARK = 2;
    private static final int LEAKY = 3;

    private static final int MOST_INCHES = 9;
    private static final int MOST_SALT = 999;
    private static final int MOST_HEAP = 9999;
    private static final int BRINE_AN_INCH = 8;
    private static final int SEA_SALT_AN_INCH = 2;
    private static final int WATER_TO_RAKE = 1;

    private static final int FARTHEST_DAY = 30;
    private static final int SHARE_DAYS = 4;
    private static final int REST_DAYS = 3;
    private static final int UNKNOWN_SALTS = 100;
    private static final int PAIRS = 4;
    private static final int LOTS = 24;

    private static final long SEED_TIMES = 6364136223846793005L;
    private static final long SEED_MORE = 1442695040888963407L;

    private static final int[] FACTORIALS = {1, 1, 2, 6, 24, 120, 720};
    private static final long[] THOUSANDS = {1L, 1000L, 1000000L, 1000000000L};

    private final Text text;
    private final Ground ground;
    private final Pans now;
    private final Pans trial;
    private final Acts acts;
    private final Finds finds;
    private final Pans[] slots;
    private final boolean[] isKept;
    private final int[] crustOfSets;
    private final int[] gains;
    private long chance;

    public BrinePans() {
        text = new Text();
        ground = new Ground();
        now = new Pans(ground);
        trial = new Pans(ground);
        acts = new Acts(ground);
        finds = new Finds();
        slots = new Pans[SLOTS];
        for (int i = 0; i < SLOTS; i++) {
            slots[i] = new Pans(ground);
        }
        isKept = new boolean[SLOTS];
        crustOfSets = new int[1 << MAX_PANS];
        gains = new int[2 * PAIRS];
        chance = 0L;
    }

    // ---- the marsh

    public int write(int letter) {
        if (letter < 0 || letter > 255) {
            return BAD;
        }
        return text.append(letter);
    }

    public int wipe() {
        return text.clear();
    }

    public int fault() {
        return text.firstFault();
    }

    public int marsh() {
        if (text.firstFault() != NONE) {
            return LATE;
        }
        text.layOut(ground, now);
        acts.clear();
        for (int i = 0; i < SLOTS; i++) {
            isKept[i] = false;
        }
        return 10 * ground.pans + ground.skies;
    }

    public int about(int what) {
        switch (what) {
            case 0: return ground.pans;
            case 1: return ground.skies;
            case 2: return now.day;
            case 3: return ground.skyOf(now.day);
            case 4: return now.open;
            case 5: return now.heap;
            case 6: return now.sumOf(now.water);
            case 7: return now.sumOf(now.salt);
            case 8: return now.crustOfAll();
            case 9: return now.rakeable();
            case 10: return acts.count;
            case 11: return finds.count;
            case 12: return text.length;
            default: return BAD;
        }
    }

    public int pan(int pan, int what) {
        if (!ground.hasPan(pan)) {
            return UNKNOWN;
        }
        switch (what) {
            case 0: return ground.kinds[pan];
            case 1: return now.water[pan];
            case 2: return now.salt[pan];
            case 3: return now.brineOf(pan);
            case 4: return now.crustOf(pan);
            case 5: return now.roomOf(pan);
            default: return BAD;
        }
    }

    // ---- acts

    public int day() {
        Pans next = fromNow();
        next.passDay(false);
        return settle(next.crustOfAll());
    }

    public int sea(int n) {
        return settle(fromNow().takeSea(n));
    }

    public int let(int pan, int n) {
        return settle(fromNow().letOn(pan, n));
    }

    public int turn(int gate) {
        return settle(fromNow().turnGate(gate));
    }

    public int rake(int pan) {
        return settle(fromNow().rakeUp(pan));
    }

    public int undo() {
        return acts.takeBack(now);
    }

    // ---- days to come

    public int later(int pan, int n, int what) {
        if (!ground.hasPan(pan)) {
            return UNKNOWN;
        }
        if (!isFromTo(n, 0, FARTHEST_DAY) || !isFromTo(what, 0, 2)) {
            return BAD;
        }
        Pans then = fromNow();
        then.passDays(n);
        if (what == 0) {
            return then.water[pan];
        }
        return what == 1 ? then.salt[pan] : then.crustOf(pan);
    }

    public int crust(int n) {
        if (!isFromTo(n, 0, FARTHEST_DAY)) {
            return BAD;
        }
        return fromNow().crustBehind(n);
    }

    public int ripe(int pan) {
        if (!ground.hasPan(pan)) {
            return UNKNOWN;
        }
        Pans then = fromNow();
        for (int days = 0; days <= FARTHEST_DAY; days++) {
            if (then.canRake(pan)) {
                return days;
            }
            then.passDay(false);
        }
        return NONE;
    }

    public int best(int n, int what) {
        if (!isFromTo(n, 1, 9) || !isFromTo(what, 0, 1)) {
            return BAD;
        }
        int most = fromNow().crustBehind(n);
        int which = 0;
        for (int pan = 0; pan < ground.gateCount(); pan++) {
            for (int inches = 1; inches <= now.water[pan]; inches++) {
                Pans then = fromNow();
                if (then.letOn(pan, inches) < 0) {
                    continue;
                }
                int lies = then.crustBehind(n);
                if (lies > most) {
                    most = lies;
                    which = 10 * pan + inches;
                }
            }
        }
        return what == 0 ? most : which;
    }

    public int gates(int n, int v) {
        if (!isFromTo(n, 1, 9) || !isFromTo(v, 0, 999)) {
            return BAD;
        }
        int fewest = NONE;
        for (int open = 0; open < 1 << ground.gateCount(); open++) {
            if (fewest != NONE && Integer.bitCount(open) >= Integer.bitCount(fewest)) {
                continue;
            }
            Pans then = fromNow();
            then.open = open;
            if (then.crustBehind(n) >= v) {
                fewest = open;
            }
        }
        return fewest;
    }

    public int judge(int n, long row) {
        if (!isFromTo(n, 1, THOUSANDS.length)) {
            return BAD;
        }
        if (row < 0 || row / THOUSANDS[n - 1] > 999) {
            return BAD;
        }
        Pans then = fromNow();
        for (int place = 0; place < n; place++) {
            int figures = (int) (row / THOUSANDS[n - 1 - place] % 1000);
            if (!then.isDone(figures / 100, figures / 10 % 10, figures % 10)) {
                return place;
            }
        }
        return NONE;
    }

    public int share(int pan, boolean upper) {
        if (!ground.hasPan(pan)) {
            return UNKNOWN;
        }
        int sets = 1 << ground.pans;
        for (int set = 0; set < sets; set++) {
            Pans then = fromNow();
            then.emptyAllBut(set);
            crustOfSets[set] = then.crustBehind(SHARE_DAYS);
        }
        int sum = 0;
        for (int set = 0; set < sets; set++) {
            if ((set >> pan & 1) == 0) {
                int before = Integer.bitCount(set);
                sum += orders(before, ground.pans - 1 - before) * (crustOfSets[set | 1 << pan] - crustOfSets[set]);
            }
        }
        return told(sum, orders(ground.pans, 0), upper);
    }

    // ---- found

    public int find(int w, int c, int more) {
        if (!isFromTo(w, 0, 9) || !isFromTo(c, 0, 99) || !isFromTo(more, 0, 1)) {
            return BAD;
        }
        return finds.add(w, c, more);
    }

    public int forget() {
        return finds.clear();
    }

    public int salts(int what) {
        if (!isFromTo(what, 0, 1)) {
            return BAD;
        }
        int count = 0;
        int first = NONE;
        for (int salt = 0; salt < UNKNOWN_SALTS; salt++) {
            if (finds.allow(salt)) {
                count++;
                if (first == NONE) {
                    first = salt;
                }
            }
        }
        return what == 0 ? count : first;
    }

    // ---- rests, chances

    public int rests(int one, int other, int what) {
        if (!ground.hasGate(one) || !ground.hasGate(other)) {
            return UNKNOWN;
        }
        if (one == other || !isFromTo(what, 0, 1)) {
            return BAD;
        }
        for (int pair = 0; pair < PAIRS; pair++) {
            weigh(pair, one, other);
        }
        int count = 0;
        int first = NONE;
        for (int pair = 0; pair < PAIRS; pair++) {
            if (isAtRest(pair)) {
                count++;
                if (first == NONE) {
                    first = 10 * (pair >> 1) + (pair & 1);
                }
            }
        }
        return what == 0 ? count : first;
    }

    public int clouds(int pan, int n, int v, int x, boolean upper) {
        if (!ground.hasPan(pan)) {
            return UNKNOWN;
        }
        if (!isFromTo(n, 1, 6) || !isFromTo(v, 0, 99) || !isFromTo(x, 0, 10)) {
            return BAD;
        }
        int sum = 0;
        int all = 1;
        for (int i = 0; i < n; i++) {
            all *= 10;
        }
        for (int clouded = 0; clouded < 1 << n; clouded++) {
            Pans then = fromNow();
            int weight = 1;
            for (int i = 0; i < n; i++) {
                boolean isClouded = (clouded >> i & 1) == 1;
                weight *= isClouded ? x : 10 - x;
                then.passDay(isClouded);
            }
            if (then.crustOf(pan) >= v) {
                sum += weight;
            }
        }
        return told(sum, all, upper);
    }

    public long seed(long v) {
        long before = chance;
        chance = v;
        return before;
    }

    public int years(int m) {
        if (!isFromTo(m, 1, 30)) {
            return BAD;
        }
        Pans then = fromNow();
        int sum = 0;
        for (int i = 0; i < m; i++) {
            chance = chance * SEED_TIMES + SEED_MORE;
            then.befall((int) ((chance >>> 33) % LOTS));
            sum += then.crustOfAll();
        }
        return sum;
    }

    // ---- slots

    public int keep(int slot) {
        if (!isFromTo(slot, 0, SLOTS - 1)) {
            return UNKNOWN;
        }
        slots[slot].copy(now);
        isKept[slot] = true;
        return now.day;
    }

    public int again(int slot) {
        if (!isFromTo(slot, 0, SLOTS - 1)) {
            return UNKNOWN;
        }
        if (!isKept[slot]) {
            return LATE;
        }
        now.copy(slots[slot]);
        acts.clear();
        return now.day;
    }

    // ---- what the calls share

    /** All that is tried is tried on one and the same row, so that no call makes a new one. */
    private Pans fromNow() {
        trial.copy(now);
        return trial;
    }

    /** What was tried becomes an act, unless its answer is a refusal (all of them are below 0). */
    private int settle(int answer) {
        if (answer >= 0) {
            acts.add(now);
            now.copy(trial);
        }
        return answer;
    }

    /** A pair's bits: 2 the one is open, 1 the other is; gains holds what both have, side by side. */
    private void weigh(int pair, int one, int other) {
        Pans then = fromNow();
        then.setGate(one, pair >> 1 == 1);
        then.setGate(other, (pair & 1) == 1);
        then.passDays(REST_DAYS);
        gains[2 * pair] = then.crustOf(one) + then.water[one + 1];
        gains[2 * pair + 1] = then.crustOf(other) + then.water[other + 1];
    }

    private boolean isAtRest(int pair) {
        return gains[2 * (pair ^ 2)] <= gains[2 * pair]
            && gains[2 * (pair ^ 1) + 1] <= gains[2 * pair + 1];
    }

    /** In how many orders so many pans come before another one, and so many behind it. */
    private static int orders(int before, int behind) {
        if (!isFromTo(before, 0, MAX_PANS) || !isFromTo(behind, 0, MAX_PANS)) {
            return 0;
        }
        return FACTORIALS[before] * FACTORIALS[behind];
    }

    private static boolean isFromTo(int n, int least, int most) {
        return n >= least && n <= most;
    }

    private static int told(int above, int below, boolean upper) {
        int common = commonMeasure(Math.abs(above), below);
        if (common < 1) {
            return NONE;
        }
        return (upper ? above : below) / common;
    }

    private static int commonMeasure(int a, int b) {
        // 64 is more steps than two ints can need
        for (int step = 0; step < 64 && b != 0; step++) {
            int rest = a % b;
            a = b;
            b = rest;
        }
        return a;
    }

    /** The text, and its grammar as steps from byte to byte. */
    private static final class Text {
        // what a step waits for
        private static final int HEAD = 0;
        private static final int THING = 1;
        private static final int KIND = 2;
        private static final int WATER = 3;
        private static final int SALT = 4;
        private static final int SUN = 5;
        private static final int RAIN = 6;
        private static final int NOTHING = 7;

        private final int[] letters = new int[MAX_TEXT];
        private int length = 0;

        private int append(int letter) {
            if (length >= MAX_TEXT) {
                return FULL;
            }
            letters[length] = letter;
            length++;
            return length;
        }

        private int clear() {
            int before = length;
            length = 0;
            return before;
        }

        private int firstFault() {
            int step = HEAD;
            int pans = 0;
            int skies = 0;
            for (int at = 0; at < length; at++) {
                step = stepBehind(step, letters[at]);
                if (step == KIND) {
                    pans++;
                }
                if (step == SUN || step == RAIN) {
                    skies++;
                }
                if (step == NOTHING || pans > MAX_PANS || skies > MAX_SKIES) {
                    return at;
                }
            }
            return step == THING ? NONE : length;
        }

        private static int stepBehind(int step, int letter) {
            switch (step) {
                case HEAD: return letter == 'M' ? THING : NOTHING;
                case THING: return stepIntoThing(letter);
                case KIND: return isFromTo(letter, '0', '3') ? WATER : NOTHING;
                case WATER: return isFromTo(letter, '0', '6') ? SALT : NOTHING;
                case SALT: return isFromTo(letter, '0', '9') ? THING : NOTHING;
                case SUN: return isFromTo(letter, '0', '4') ? THING : NOTHING;
                case RAIN: return isFromTo(letter, '1', '4') ? THING : NOTHING;
                default: return NOTHING;
            }
        }

        private static int stepIntoThing(int letter) {
            switch (letter) {
                case 'N': return KIND;
                case 'S': return SUN;
                case 'R': return RAIN;
                default: return NOTHING;
            }
        }

        /** Only for a text without a fault: its things are whole, and not too many. */
        private void layOut(Ground ground, Pans pans) {
            ground.clear();
            pans.clear();
            int step = HEAD;
            for (int at = 0; at < length; at++) {
                int figure = letters[at] - '0';
                switch (step) {
                    case KIND: ground.addPan(figure); break;
                    case WATER: pans.lay(pans.water, ground.pans - 1, figure); break;
                    case SALT: pans.lay(pans.salt, ground.pans - 1, 10 * figure); break;
                    case SUN: ground.addSky(figure); break;
                    case RAIN: ground.addSky(-figure); break;
                    default: break;
                }
                step = stepBehind(step, letters[at]);
            }
        }
    }

    /** What no act changes: kinds of pans, and skies (a rain is told below 0). */
    private static final class Ground {
        private final int[] kinds = new int[MAX_PANS];
        private final int[] sky = new int[MAX_SKIES];
        private int pans = 0;
        private int skies = 0;

        private void clear() {
            pans = 0;
            skies = 0;
        }

        private void addPan(int kind) {
            if (pans < MAX_PANS) {
                kinds[pans] = kind;
                pans++;
            }
        }

        private void addSky(int figure) {
            if (skies < MAX_SKIES) {
                sky[skies] = figure;
                skies++;
            }
        }

        private boolean hasPan(int pan) {
            return pan >= 0 && pan < pans;
        }

        private int gateCount() {
            return pans == 0 ? 0 : pans - 1;
        }

        private boolean hasGate(int gate) {
            return gate >= 0 && gate < gateCount();
        }

        private int skyOf(int day) {
            return skies == 0 || day < 0 ? 0 : sky[day % skies];
        }

        private int depthOf(int pan) {
            return kinds[pan] == DEEP ? 9 : 6;
        }
    }

    /** How all stands at one time; what is done to it is refused, and changes nothing, if it can not be. */
    private static final class Pans {
        private final Ground ground;
        private final int[] water = new int[MAX_PANS];
        private final int[] salt = new int[MAX_PANS];
        private int open = 0;
        private int heap = 0;
        private int day = 0;

        private Pans(Ground ground) {
            this.ground = ground;
        }

        private void clear() {
            emptyAllBut(0);
            open = 0;
            heap = 0;
            day = 0;
        }

        /** What the text tells of a pan's water, or of its salt. */
        private void lay(int[] row, int pan, int much) {
            if (ground.hasPan(pan)) {
                row[pan] = much;
            }
        }

        private void copy(Pans other) {
            for (int i = 0; i < MAX_PANS; i++) {
                water[i] = other.water[i];
                salt[i] = other.salt[i];
            }
            open = other.open;
            heap = other.heap;
            day = other.day;
        }

        private void emptyAllBut(int set) {
            for (int i = 0; i < MAX_PANS; i++) {
                if ((set >> i & 1) == 0) {
                    water[i] = 0;
                    salt[i] = 0;
                }
            }
        }

        private int brineOf(int pan) {
            int most = BRINE_AN_INCH * water[pan];
            return salt[pan] < most ? salt[pan] : most;
        }

        private int crustOf(int pan) {
            return salt[pan] - brineOf(pan);
        }

        private int roomOf(int pan) {
            return ground.depthOf(pan) - water[pan];
        }

        /** Of water or of salt, pan by pan. */
        private int sumOf(int[] row) {
            int sum = 0;
            for (int i = 0; i < ground.pans; i++) {
                sum += row[i];
            }
            return sum;
        }

        private int crustOfAll() {
            int sum = 0;
            for (int i = 0; i < ground.pans; i++) {
                sum += crustOf(i);
            }
            return sum;
        }

        private boolean canRake(int pan) {
            return water[pan] <= WATER_TO_RAKE && crustOf(pan) > 0;
        }

        private int rakeable() {
            int bits = 0;
            for (int i = 0; i < ground.pans; i++) {
                if (canRake(i)) {
                    bits |= 1 << i;
                }
            }
            return bits;
        }

        private boolean isOpen(int gate) {
            return (open >> gate & 1) == 1;
        }

        private void setGate(int gate, boolean opened) {
            if (isOpen(gate) != opened) {
                open ^= 1 << gate;
            }
        }

        /** Water goes from a pan with its part of the brine: how much salt went with it. */
        private int drain(int pan, int inches) {
            if (inches < 1 || water[pan] < inches) {
                return 0;
            }
            int gone = brineOf(pan) * inches / water[pan];
            water[pan] -= inches;
            salt[pan] -= gone;
            return gone;
        }

        private void fill(int pan, int inches, int more) {
            water[pan] += inches;
            salt[pan] = Math.min(MOST_SALT, salt[pan] + more);
        }

        private int takeSea(int n) {
            if (!ground.hasPan(0)) {
                return UNKNOWN;
            }
            if (!isFromTo(n, 1, MOST_INCHES)) {
                return BAD;
            }
            if (roomOf(0) < n) {
                return FULL;
            }
            fill(0, n, SEA_SALT_AN_INCH * n);
            return water[0];
        }

        private int letOn(int pan, int n) {
            if (!ground.hasGate(pan)) {
                return UNKNOWN;
            }
            if (!isFromTo(n, 1, MOST_INCHES)) {
                return BAD;
            }
            if (water[pan] < n) {
                return LATE;
            }
            if (roomOf(pan + 1) < n) {
                return FULL;
            }
            int gone = drain(pan, n);
            fill(pan + 1, n, gone);
            return gone;
        }

        private int turnGate(int gate) {
            if (!ground.hasGate(gate)) {
                return UNKNOWN;
            }
            setGate(gate, !isOpen(gate));
            return isOpen(gate) ? 1 : 0;
        }

        private int rakeUp(int pan) {
            if (!ground.hasPan(pan)) {
                return UNKNOWN;
            }
            if (!canRake(pan)) {
                return LATE;
            }
            int raked = crustOf(pan);
            salt[pan] -= raked;
            heap = Math.min(MOST_HEAP, heap + raked);
            return raked;
        }

        private void passDay(boolean isClouded) {
            for (int gate = 0; gate < ground.gateCount(); gate++) {
                if (isOpen(gate)) {
                    letOn(gate, 1);
                }
            }
            for (int i = 0; i < ground.pans; i++) {
                if (ground.kinds[i] == LEAKY) {
                    drain(i, 1);
                }
            }
            int sky = ground.skyOf(day);
            if (sky < 0) {
                rain(-sky);
            } else if (sky > 0 && !isClouded) {
                shine(sky);
            }
            day++;
        }

        private void rain(int inches) {
            for (int i = 0; i < ground.pans; i++) {
                water[i] += Math.min(inches, roomOf(i));
            }
        }

        /** Only for a sun of 1 or more: under one of 0 a dark pan loses nothing either. */
        private void shine(int sun) {
            for (int i = 0; i < ground.pans; i++) {
                int inches = ground.kinds[i] == DARK ? sun + 1 : sun;
                water[i] = Math.max(0, water[i] - inches);
            }
        }

        private void passDays(int n) {
            for (int i = 0; i < n; i++) {
                passDay(false);
            }
        }

        private int crustBehind(int n) {
            passDays(n);
            return crustOfAll();
        }

        /** Three figures that tell no doing at all can not be, as one that is refused. */
        private boolean isDone(int doing, int middle, int last) {
            boolean isPlain = middle == 0;
            switch (doing) {
                case 0:
                    if (!isPlain || last != 0) {
                        return false;
                    }
                    passDay(false);
                    return true;
                case 1: return isPlain && takeSea(last) >= 0;
                case 2: return letOn(middle, last) >= 0;
                case 3: return isPlain && turnGate(last) >= 0;
                case 4: return isPlain && rakeUp(last) >= 0;
                case 5: return ground.hasPan(middle) && water[middle] >= last;
                case 6: return ground.hasPan(middle) && crustOf(middle) >= 10 * last;
                default: return false;
            }
        }

        private void befall(int lot) {
            if (lot < 5) {
                turnGate(lot);
            } else if (lot < 10) {
                letOn(lot - 5, 1);
            } else if (lot < 12) {
                takeSea(3);
            } else {
                passDay(false);
            }
        }
    }

    /** How all stood before each act, in a ring: when it is full, the first is written over. */
    private static final class Acts {
        private final Pans[] before = new Pans[MAX_ACTS];
        private int next = 0;
        private int count = 0;

        private Acts(Ground ground) {
            for (int i = 0; i < MAX_ACTS; i++) {
                before[i] = new Pans(ground);
            }
        }

        private void clear() {
            count = 0;
        }

        private void add(Pans now) {
            before[next].copy(now);
            next = (next + 1) % MAX_ACTS;
            count = Math.min(MAX_ACTS, count + 1);
        }

        private int takeBack(Pans now) {
            if (count == 0) {
                return LATE;
            }
            next = (next + MAX_ACTS - 1) % MAX_ACTS;
            now.copy(before[next]);
            count--;
            return count;
        }
    }

    /** What was found of the unknown pan. */
    private static final class Finds {
        private final int[] water = new int[MAX_FINDS];
        private final int[] crusts = new int[MAX_FINDS];
        private final boolean[] isMore = new boolean[MAX_FINDS];
        private int count = 0;

        private int add(int inches, int lay, int more) {
            if (count >= MAX_FINDS) {
                return FULL;
            }
            water[count] = inches;
            crusts[count] = lay;
            isMore[count] = more == 1;
            count++;
            return count;
        }

        private int clear() {
            int before = count;
            count = 0;
            return before;
        }

        private boolean allow(int salt) {
            for (int i = 0; i < count; i++) {
                int lies = salt - Math.min(salt, BRINE_AN_INCH * water[i]);
                if (lies >= crusts[i] != isMore[i]) {
                    return false;
                }
            }
            return true;
        }
    }
}
