import java.math.BigInteger;
import java.util.ArrayDeque;
import java.util.ArrayList;
import java.util.Deque;
import java.util.List;
import java.util.regex.Matcher;
import java.util.regex.Pattern;

/** The document said a second time, in another way, and without regard to what it costs. */
final class Model {
    private static final Pattern MARSH = Pattern.compile("M(N[0-3][0-6][0-9]|S[0-4]|R[1-4])*");

    /** How all stands; never changed once it has been made known. */
    private static final class At {
        int[] water = new int[0];
        int[] salt = new int[0];
        boolean[] open = new boolean[0];
        int heap;
        int day;

        At copy() {
            At other = new At();
            other.water = water.clone();
            other.salt = salt.clone();
            other.open = open.clone();
            other.heap = heap;
            other.day = day;
            return other;
        }
    }

    /** What came of a doing: how all stands then (null: refused), and the answer. */
    private record Done(At then, int answer) {
    }

    private record Find(int w, int c, int more) {
    }

    private String text = "";
    private int[] kinds = new int[0];
    private int[] skies = new int[0];
    private At now = new At();
    private Deque<At> acts = new ArrayDeque<>();
    private final List<Find> finds = new ArrayList<>();
    private At[] slots = new At[2];
    private long seed;

    int write(int letter) {
        if (letter < 0 || letter > 255) return -2;
        if (text.length() == 36) return -4;
        text += (char) letter;
        return text.length();
    }

    int wipe() {
        int was = text.length();
        text = "";
        return was;
    }

    private static boolean canBecomeMarsh(String start) {
        Matcher m = MARSH.matcher(start);
        if (!m.matches() && !m.hitEnd()) return false;
        long pans = start.chars().filter(c -> c == 'N').count();
        long skies = start.chars().filter(c -> c == 'S' || c == 'R').count();
        return pans <= 6 && skies <= 5;
    }

    int fault() {
        for (int i = 0; i < text.length(); i++) {
            if (!canBecomeMarsh(text.substring(0, i + 1))) return i;
        }
        return MARSH.matcher(text).matches() ? -9 : text.length();
    }

    int marsh() {
        if (fault() != -9) return -3;
        List<Integer> kind = new ArrayList<>();
        List<Integer> sky = new ArrayList<>();
        List<Integer> water = new ArrayList<>();
        List<Integer> salt = new ArrayList<>();
        Matcher m = Pattern.compile("N(.)(.)(.)|S(.)|R(.)").matcher(text);
        while (m.find()) {
            if (m.group(1) != null) {
                kind.add(Integer.parseInt(m.group(1)));
                water.add(Integer.parseInt(m.group(2)));
                salt.add(Integer.parseInt(m.group(3)) * 10);
            } else if (m.group(4) != null) {
                sky.add(Integer.parseInt(m.group(4)));
            } else {
                sky.add(-Integer.parseInt(m.group(5)));
            }
        }
        kinds = kind.stream().mapToInt(i -> i).toArray();
        skies = sky.stream().mapToInt(i -> i).toArray();
        now = new At();
        now.water = water.stream().mapToInt(i -> i).toArray();
        now.salt = salt.stream().mapToInt(i -> i).toArray();
        now.open = new boolean[kinds.length];
        acts.clear();
        slots = new At[2];
        return kinds.length * 10 + skies.length;
    }

    private int sky(int day) {
        return skies.length == 0 ? 0 : skies[day % skies.length];
    }

    private static int brine(At at, int pan) {
        int holds = at.water[pan] * 8;
        return at.salt[pan] > holds ? holds : at.salt[pan];
    }

    private static int crust(At at, int pan) {
        return at.salt[pan] - brine(at, pan);
    }

    private static int crust(At at) {
        int sum = 0;
        for (int pan = 0; pan < at.water.length; pan++) sum += crust(at, pan);
        return sum;
    }

    private int holds(int pan) {
        return kinds[pan] == 1 ? 9 : 6;
    }

    private boolean isPan(int pan) {
        return pan >= 0 && pan < kinds.length;
    }

    private boolean isGate(int gate) {
        return isPan(gate) && gate != kinds.length - 1;
    }

    private static boolean canRake(At at, int pan) {
        return at.water[pan] < 2 && crust(at, pan) != 0;
    }

    int about(int what) {
        int bits = 0;
        int rakes = 0;
        int water = 0;
        int salt = 0;
        for (int pan = 0; pan < kinds.length; pan++) {
            if (now.open[pan]) bits += 1 << pan;
            if (canRake(now, pan)) rakes += 1 << pan;
            water += now.water[pan];
            salt += now.salt[pan];
        }
        int[] all = {kinds.length, skies.length, now.day, sky(now.day), bits, now.heap, water, salt,
            crust(now), rakes, acts.size(), finds.size(), text.length()};
        return what < 0 || what >= all.length ? -2 : all[what];
    }

    int pan(int pan, int what) {
        if (!isPan(pan)) return -1;
        int[] all = {kinds[pan], now.water[pan], now.salt[pan], brine(now, pan), crust(now, pan),
            holds(pan) - now.water[pan]};
        return what < 0 || what >= all.length ? -2 : all[what];
    }

    private static int goes(At at, int pan, int n) {
        int salt = brine(at, pan) * n / at.water[pan];
        at.water[pan] -= n;
        at.salt[pan] -= salt;
        return salt;
    }

    private At dayOf(At at, boolean sunGone) {
        At then = at.copy();
        for (int pan = 0; pan + 1 < kinds.length; pan++) {
            if (then.open[pan] && then.water[pan] > 0 && then.water[pan + 1] < holds(pan + 1)) {
                int salt = goes(then, pan, 1);
                then.water[pan + 1] += 1;
                then.salt[pan + 1] = Math.min(999, then.salt[pan + 1] + salt);
            }
        }
        for (int pan = 0; pan < kinds.length; pan++) {
            if (kinds[pan] == 3 && then.water[pan] > 0) goes(then, pan, 1);
        }
        int sky = sky(then.day);
        if (sky > 0 && sunGone) sky = 0;
        for (int pan = 0; pan < kinds.length; pan++) {
            int more = -sky - (sky >= 1 && kinds[pan] == 2 ? 1 : 0);
            then.water[pan] = Math.max(0, Math.min(holds(pan), then.water[pan] + more));
        }
        then.day++;
        return then;
    }

    private At behind(At at, int days) {
        return days == 0 ? at : behind(dayOf(at, false), days - 1);
    }

    private Done doDay(At at) {
        At then = dayOf(at, false);
        return new Done(then, crust(then));
    }

    private Done doSea(At at, int n) {
        if (kinds.length == 0) return new Done(null, -1);
        if (n < 1 || n > 9) return new Done(null, -2);
        if (at.water[0] + n > holds(0)) return new Done(null, -4);
        At then = at.copy();
        then.water[0] += n;
        then.salt[0] = Math.min(999, then.salt[0] + 2 * n);
        return new Done(then, then.water[0]);
    }

    private Done doLet(At at, int pan, int n) {
        if (!isGate(pan)) return new Done(null, -1);
        if (n < 1 || n > 9) return new Done(null, -2);
        if (at.water[pan] < n) return new Done(null, -3);
        if (at.water[pan + 1] + n > holds(pan + 1)) return new Done(null, -4);
        At then = at.copy();
        int salt = goes(then, pan, n);
        then.water[pan + 1] += n;
        then.salt[pan + 1] = Math.min(999, then.salt[pan + 1] + salt);
        return new Done(then, salt);
    }

    private Done doTurn(At at, int gate) {
        if (!isGate(gate)) return new Done(null, -1);
        At then = at.copy();
        then.open[gate] = !at.open[gate];
        return new Done(then, then.open[gate] ? 1 : 0);
    }

    private Done doRake(At at, int pan) {
        if (!isPan(pan)) return new Done(null, -1);
        if (!canRake(at, pan)) return new Done(null, -3);
        At then = at.copy();
        int raked = crust(at, pan);
        then.salt[pan] -= raked;
        then.heap = Math.min(9999, at.heap + raked);
        return new Done(then, raked);
    }

    private int act(Done done) {
        if (done.then() != null) {
            acts.addLast(now);
            if (acts.size() > 14) acts.removeFirst();
            now = done.then();
        }
        return done.answer();
    }

    int day() {
        return act(doDay(now));
    }

    int sea(int n) {
        return act(doSea(now, n));
    }

    int let(int pan, int n) {
        return act(doLet(now, pan, n));
    }

    int turn(int gate) {
        return act(doTurn(now, gate));
    }

    int rake(int pan) {
        return act(doRake(now, pan));
    }

    int undo() {
        if (acts.isEmpty()) return -3;
        now = acts.removeLast();
        return acts.size();
    }

    int later(int pan, int n, int what) {
        if (!isPan(pan)) return -1;
        if (n < 0 || n > 30 || what < 0 || what > 2) return -2;
        At then = behind(now, n);
        return new int[] {then.water[pan], then.salt[pan], crust(then, pan)}[what];
    }

    int crust(int n) {
        return n < 0 || n > 30 ? -2 : crust(behind(now, n));
    }

    int ripe(int pan) {
        if (!isPan(pan)) return -1;
        for (int n = 0; n <= 30; n++) {
            if (canRake(behind(now, n), pan)) return n;
        }
        return -9;
    }

    int best(int n, int what) {
        if (n < 1 || n > 9 || what < 0 || what > 1) return -2;
        int[] by = new int[60];
        int most = by[0] = crust(behind(now, n));
        for (int which = 1; which < 60; which++) {
            Done done = doLet(now, which / 10, which % 10);
            by[which] = done.then() == null ? -1 : crust(behind(done.then(), n));
            most = Math.max(most, by[which]);
        }
        int which = 0;
        while (by[which] != most) which++;
        return what == 0 ? most : which;
    }

    int gates(int n, int v) {
        if (n < 1 || n > 9 || v < 0 || v > 999) return -2;
        int count = Math.max(0, kinds.length - 1);
        for (int few = 0; few <= count; few++) {
            for (int bits = 0; bits < 1 << count; bits++) {
                At then = now.copy();
                for (int gate = 0; gate < count; gate++) then.open[gate] = (bits & 1 << gate) != 0;
                if (Integer.bitCount(bits) == few && crust(behind(then, n)) >= v) return bits;
            }
        }
        return -9;
    }

    private At judged(At at, String figures) {
        int pan = figures.charAt(1) - '0';
        int n = figures.charAt(2) - '0';
        if (figures.equals("000")) return dayOf(at, false);
        if (figures.startsWith("10")) return doSea(at, n).then();
        if (figures.startsWith("2")) return doLet(at, pan, n).then();
        if (figures.startsWith("30")) return doTurn(at, n).then();
        if (figures.startsWith("40")) return doRake(at, n).then();
        if (figures.startsWith("5") && isPan(pan) && at.water[pan] >= n) return at;
        if (figures.startsWith("6") && isPan(pan) && crust(at, pan) >= 10 * n) return at;
        return null;
    }

    int judge(int n, long row) {
        if (n < 1 || n > 4 || row < 0) return -2;
        String figures = Long.toString(row);
        if (figures.length() > 3 * n) return -2;
        figures = "0".repeat(3 * n - figures.length()) + figures;
        At at = now;
        for (int place = 0; place < n; place++) {
            at = judged(at, figures.substring(3 * place, 3 * place + 3));
            if (at == null) return place;
        }
        return -9;
    }

    private int crustWith(boolean[] come) {
        At then = now.copy();
        for (int pan = 0; pan < kinds.length; pan++) {
            if (!come[pan]) {
                then.water[pan] = 0;
                then.salt[pan] = 0;
            }
        }
        return crust(behind(then, 4));
    }

    /** Over every order in which the others that have not come may come: sum, and count of orders. */
    private void orders(boolean[] come, int pan, long[] sum, int gain) {
        boolean anyLeft = false;
        for (int next = 0; next < come.length; next++) {
            if (come[next]) continue;
            anyLeft = true;
            int before = next == pan ? crustWith(come) : 0;
            come[next] = true;
            int more = next == pan ? crustWith(come) - before : gain;
            orders(come, pan, sum, more);
            come[next] = false;
        }
        if (!anyLeft) {
            sum[0] += gain;
            sum[1]++;
        }
    }

    private static int fraction(long above, long below, boolean upper) {
        BigInteger common = BigInteger.valueOf(above).gcd(BigInteger.valueOf(below));
        return BigInteger.valueOf(upper ? above : below).divide(common).intValueExact();
    }

    int share(int pan, boolean upper) {
        if (!isPan(pan)) return -1;
        long[] sum = new long[2];
        orders(new boolean[kinds.length], pan, sum, 0);
        return fraction(sum[0], sum[1], upper);
    }

    int find(int w, int c, int more) {
        if (w < 0 || w > 9 || c < 0 || c > 99 || more < 0 || more > 1) return -2;
        if (finds.size() == 6) return -4;
        finds.add(new Find(w, c, more));
        return finds.size();
    }

    int forget() {
        int was = finds.size();
        finds.clear();
        return was;
    }

    int salts(int what) {
        if (what < 0 || what > 1) return -2;
        List<Integer> fit = new ArrayList<>();
        for (int salt = 0; salt < 100; salt++) {
            int s = salt;
            if (finds.stream().allMatch(f -> Math.max(0, s - 8 * f.w()) >= f.c() == (f.more() == 1))) fit.add(salt);
        }
        if (what == 0) return fit.size();
        return fit.isEmpty() ? -9 : fit.get(0);
    }

    private int[] had(int one, int other, int a, int b) {
        At then = now.copy();
        then.open[one] = a == 1;
        then.open[other] = b == 1;
        then = behind(then, 3);
        return new int[] {crust(then, one) + then.water[one + 1], crust(then, other) + then.water[other + 1]};
    }

    int rests(int one, int other, int what) {
        if (!isGate(one) || !isGate(other)) return -1;
        if (one == other || what < 0 || what > 1) return -2;
        int count = 0;
        int first = -9;
        for (int a = 1; a >= 0; a--) {
            for (int b = 1; b >= 0; b--) {
                int[] has = had(one, other, a, b);
                if (had(one, other, 1 - a, b)[0] > has[0] || had(one, other, a, 1 - b)[1] > has[1]) continue;
                count++;
                first = 10 * a + b;
            }
        }
        return what == 0 ? count : first;
    }

    private long chances(At at, int pan, int n, int v, int x) {
        if (n == 0) return crust(at, pan) >= v ? 1 : 0;
        return x * chances(dayOf(at, true), pan, n - 1, v, x) + (10 - x) * chances(dayOf(at, false), pan, n - 1, v, x);
    }

    int clouds(int pan, int n, int v, int x, boolean upper) {
        if (!isPan(pan)) return -1;
        if (n < 1 || n > 6 || v < 0 || v > 99 || x < 0 || x > 10) return -2;
        return fraction(chances(now, pan, n, v, x), Math.round(Math.pow(10, n)), upper);
    }

    long seed(long v) {
        long was = seed;
        seed = v;
        return was;
    }

    int years(int m) {
        if (m < 1 || m > 30) return -2;
        At at = now;
        int sum = 0;
        for (int i = 0; i < m; i++) {
            BigInteger next = BigInteger.valueOf(seed).multiply(new BigInteger("6364136223846793005"))
                .add(new BigInteger("1442695040888963407")).mod(BigInteger.ONE.shiftLeft(64));
            seed = next.longValue();
            int lot = next.shiftRight(33).mod(BigInteger.valueOf(24)).intValue();
            Done done = lot <= 4 ? doTurn(at, lot) : lot <= 9 ? doLet(at, lot - 5, 1)
                : lot <= 11 ? doSea(at, 3) : doDay(at);
            if (done.then() != null) at = done.then();
            sum += crust(at);
        }
        return sum;
    }

    int keep(int slot) {
        if (slot != 0 && slot != 1) return -1;
        slots[slot] = now;
        return now.day;
    }

    int again(int slot) {
        if (slot != 0 && slot != 1) return -1;
        if (slots[slot] == null) return -3;
        now = slots[slot];
        acts.clear();
        return now.day;
    }
}
