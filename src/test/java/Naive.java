import java.math.BigInteger;
import java.util.ArrayList;
import java.util.Arrays;
import java.util.HashMap;
import java.util.List;
import java.util.Map;

/**
 * The document read once more, in the simplest way and with the whole Java library:
 * all ways are walked, nothing is merged. FuzzTest holds the class against it.
 */
final class Naive {
    static final int BAD = -1, NOT = -2, FULL = -3, STATE = -5, VOID = -2000000000;

    /** Purses: whole coins of all, then notched ones of all. */
    static final class Coins {
        final int[] w = new int[6];
        final int[] c = new int[6];

        Coins copy() {
            Coins other = new Coins();
            System.arraycopy(w, 0, other.w, 0, 6);
            System.arraycopy(c, 0, other.c, 0, 6);
            return other;
        }

        /** What comes of it, or null: it can't be. */
        Coins given(int by, int to) {
            if (w[by] < 1 || w[to] > 19 || c[by] > 19) return null;
            Coins next = copy();
            next.w[by]--;
            next.w[to]++;
            return next;
        }

        Coins refused(int by, int to) {
            if (given(by, to) == null) return null;
            Coins next = copy();
            next.w[by]--;
            next.c[by]++;
            return next;
        }

        Coins cutGiven(int by, int to) {
            if (c[by] < 1 || c[to] > 19) return null;
            Coins next = copy();
            next.c[by]--;
            next.c[to]++;
            return next;
        }
    }

    static final class Frac {
        final BigInteger a, b;

        Frac(BigInteger a, BigInteger b) {
            BigInteger g = a.gcd(b);
            this.a = a.divide(g);
            this.b = b.divide(g);
        }

        static Frac of(long a, long b) {
            return new Frac(BigInteger.valueOf(a), BigInteger.valueOf(b));
        }

        Frac plus(Frac o) {
            return new Frac(a.multiply(o.b).add(o.a.multiply(b)), b.multiply(o.b));
        }

        Frac times(Frac o) {
            return new Frac(a.multiply(o.a), b.multiply(o.b));
        }

        long part(int part) {
            return (part == 0 ? a : b).longValueExact();
        }
    }

    static final class Shelf {
        int kind = -2; // -2 nothing, -1 a body, else a row's sort
        int body;
        long[] row = {};
    }

    Coins now = new Coins();
    int people = 0;
    final int[] pride = new int[6];
    final int[] forged = new int[6];
    int notch = 3, hour = 0, habit = 6;
    String tape = "";
    String law = null;
    final int[] led = new int[4];
    Coins imageCoins;
    int imagePeople, imageHour;
    int[] imageLed;
    final List<int[]> done = new ArrayList<>();
    final List<int[]> undone = new ArrayList<>();
    final List<Integer> bodies = new ArrayList<>();
    final List<Integer> trace = new ArrayList<>();
    final Shelf[] shelves = new Shelf[6];

    Naive() {
        for (int i = 0; i < 6; i++) shelves[i] = new Shelf();
    }

    boolean one(int i) {
        return i >= 0 && i < people;
    }

    boolean two(int ab) {
        return ab >= 0 && one(ab / 10) && one(ab % 10) && ab / 10 != ab % 10;
    }

    int worth(Coins coins, int i) {
        return 4 * coins.w[i] + notch * coins.c[i];
    }

    // ---- people

    int person(int whole) {
        if (whole < 0 || whole > 20) return BAD;
        if (people == 6) return FULL;
        now.w[people] = whole;
        pride[people] = 3;
        return people++;
    }

    int people(int shelf, int i, int n) {
        if (shelf < 0 || shelf > 5 || n < 1 || n > 6) return BAD;
        Shelf s = shelves[shelf];
        if (s.kind == -2) return 0;
        if (s.kind != 0) return -12;
        if (i < 0) return 0;
        for (int k = 0; k < n; k++) {
            long at = i + 3L * k;
            if (at + 2 >= s.row.length || people == 6) return k;
            long w = s.row[(int) at], c = s.row[(int) at + 1], p = s.row[(int) at + 2];
            if (w < 0 || w > 20 || c < 0 || c > 20 || p < 0 || p > 12) return k;
            now.w[people] = (int) w;
            now.c[people] = (int) c;
            pride[people] = (int) p;
            people++;
        }
        return n;
    }

    void set(int number, int what, int v) {
        switch (what) {
            case 0 -> now.w[number] = v;
            case 1 -> now.c[number] = v;
            case 2 -> pride[number] = v;
            case 3 -> forged[number] = v;
            case 4 -> notch = v;
            case 5 -> hour = v;
            default -> habit = v;
        }
    }

    int mend(int number, int what, int v) {
        if (what < 0 || what > 6) return BAD;
        int was = of(number, what);
        int[] most = {20, 20, 12, 20, 4, 11, 12};
        if (was == BAD || v < 0 || v > most[what]) return BAD;
        if (was != v) {
            set(number, what, v);
            done.add(new int[] {number, what, was, v});
            if (done.size() > 40) done.remove(0);
            undone.clear();
        }
        return was;
    }

    int of(int number, int what) {
        if (what == 4) return number == 0 ? notch : BAD;
        if (what == 5) return number == 0 ? hour : BAD;
        if (what == 6) return number == 0 ? habit : BAD;
        if (!one(number)) return BAD;
        switch (what) {
            case 0: return now.w[number];
            case 1: return now.c[number];
            case 2: return pride[number];
            case 3: return forged[number];
            case 7: return worth(now, number);
            case 8: return Math.min(forged[number], now.c[number]);
            default: return BAD;
        }
    }

    int feed(int letter) {
        if (letter < 0 || letter > 255) return BAD;
        if (tape.length() == 120) return FULL;
        tape += (char) letter;
        return tape.length();
    }

    int law() {
        String text = tape;
        tape = "";
        int fault = NaiveLaw.fault(text);
        if (fault >= 0) return -100 - fault;
        law = text;
        return 1;
    }

    final Map<String, Integer> known = new HashMap<>();

    int lawFor(Coins coins, int by, int to) {
        int v;
        if (law == null) {
            v = pride[to] + hour / 3 - pride[by] / 4;
        } else {
            int[] names = {pride[to], pride[by], coins.w[to], coins.c[to], hour, notch};
            String key = law + Arrays.toString(names);
            if (!known.containsKey(key)) known.put(key, NaiveLaw.value(law, names));
            v = known.get(key);
        }
        return v < 0 ? 0 : Math.min(v, 12);
    }

    int odds(int ab) {
        return two(ab) ? lawFor(now, ab / 10, ab % 10) : BAD;
    }

    // ---- evenings in thought

    int notBytes(int shelf) {
        return shelves[shelf].kind == -2 ? -11 : shelves[shelf].kind != 0 ? -12 : 0;
    }

    List<int[]> offers(int shelf) {
        List<int[]> all = new ArrayList<>();
        for (long v : shelves[shelf].row) {
            int by = (int) v / 20, to = (int) v / 2 % 10;
            if (v < 0 || by == to || !one(by) || !one(to) || all.size() == 20) break;
            all.add(new int[] {by, to, (int) v % 2});
        }
        return all;
    }

    int[] lived; // refused, first that can't be, who
    Coins played(int shelf, int n) {
        Coins coins = now;
        lived = new int[] {0, NOT, 0};
        int place = 0;
        for (int[] o : offers(shelf)) {
            if (place == n) break;
            Coins next;
            if (o[2] == 1) {
                next = coins.cutGiven(o[0], o[1]);
            } else if (lawFor(coins, o[0], o[1]) >= habit) {
                next = coins.refused(o[0], o[1]);
                if (next != null) {
                    lived[0]++;
                    lived[2] |= 1 << o[1];
                }
            } else {
                next = coins.given(o[0], o[1]);
            }
            if (next != null) coins = next;
            else if (lived[1] == NOT) lived[1] = place;
            place++;
        }
        return coins;
    }

    int later(int shelf, int n, int one, int what) {
        if (shelf < 0 || shelf > 5 || n < 0 || n > 20 || !one(one) || what < 0 || what > 2) return BAD;
        if (notBytes(shelf) != 0) return notBytes(shelf);
        Coins end = played(shelf, n);
        return what == 0 ? end.w[one] : what == 1 ? end.c[one] : worth(end, one);
    }

    int evening(int shelf, int n, int what) {
        if (shelf < 0 || shelf > 5 || n < 0 || n > 20 || what < 0 || what > 2) return BAD;
        if (notBytes(shelf) != 0) return notBytes(shelf);
        played(shelf, n);
        return what == 0 ? lived[0] : what == 1 ? lived[1] : lived[2];
    }

    List<int[]> roundOf(int shelf) {
        List<int[]> all = new ArrayList<>();
        long[] row = shelves[shelf].row;
        for (int i = 0; i + 1 < row.length && all.size() < 10; i += 2) {
            int by = (int) row[i], to = (int) row[i + 1];
            if (by == to || !one(by) || !one(to)) break;
            all.add(new int[] {by, to});
        }
        return all;
    }

    /** By these kinds: refused, and farthings of the first payer; null: it can't be. */
    int[] paid(List<int[]> pairs, int kinds) {
        Coins coins = now;
        int refused = 0;
        for (int i = 0; i < pairs.size(); i++) {
            int by = pairs.get(i)[0], to = pairs.get(i)[1];
            // The first kind is the highest digit, so that like ones come by numbers.
            boolean cut = (kinds >> pairs.size() - 1 - i & 1) == 1;
            if (cut) {
                coins = coins.cutGiven(by, to);
            } else if (lawFor(coins, by, to) >= habit) {
                coins = coins.refused(by, to);
                if (coins != null) coins = coins.cutGiven(by, to);
                refused++;
            } else {
                coins = coins.given(by, to);
            }
            if (coins == null) return null;
        }
        return new int[] {refused, pairs.isEmpty() ? 0 : worth(coins, pairs.get(0)[0])};
    }

    int round(int shelf, int k) {
        if (shelf < 0 || shelf > 5 || k < -1) return BAD;
        if (notBytes(shelf) != 0) return notBytes(shelf);
        List<int[]> pairs = roundOf(shelf);
        int best = -1, fewest = 99;
        for (int kinds = 0; kinds < 1 << pairs.size(); kinds++) {
            int[] end = paid(pairs, kinds);
            if (end != null && end[0] < fewest) {
                fewest = end[0];
                best = kinds;
            }
        }
        if (best < 0 || k >= pairs.size()) return NOT;
        return k == -1 ? fewest : best >> pairs.size() - 1 - k & 1;
    }

    int cleanest(int shelf) {
        if (shelf < 0 || shelf > 5) return BAD;
        if (notBytes(shelf) != 0) return notBytes(shelf);
        List<int[]> pairs = roundOf(shelf);
        if (pairs.isEmpty()) return NOT;
        int most = NOT;
        for (int kinds = 0; kinds < 1 << pairs.size(); kinds++) {
            int[] end = paid(pairs, kinds);
            if (end != null) most = Math.max(most, end[1]);
        }
        return most;
    }

    // ---- odds

    /** How likely each number of refused ones is. */
    Frac[] payings(Coins coins, int by, int to, int n) {
        Frac[] likely = new Frac[9];
        Arrays.fill(likely, Frac.of(0, 1));
        if (n == 0) {
            likely[0] = Frac.of(1, 1);
            return likely;
        }
        if (coins.given(by, to) == null) return payings(coins, by, to, n - 1);
        int odds = lawFor(coins, by, to);
        Frac[] yes = payings(coins.given(by, to), by, to, n - 1);
        Frac[] no = payings(coins.refused(by, to), by, to, n - 1);
        for (int r = 0; r < 9; r++) {
            Frac taken = yes[r].times(Frac.of(12 - odds, 12));
            Frac refused = r == 0 ? Frac.of(0, 1) : no[r - 1].times(Frac.of(odds, 12));
            likely[r] = taken.plus(refused);
        }
        return likely;
    }

    long pay(int ab, int n, int r, int part) {
        if (!two(ab) || n < 0 || n > 8 || r < 0 || r > 8 || part < 0 || part > 1) return Long.MIN_VALUE;
        return payings(now, ab / 10, ab % 10, n)[r].part(part);
    }

    long mean(int ab, int n, int part) {
        if (!two(ab) || n < 0 || n > 8 || part < 0 || part > 1) return Long.MIN_VALUE;
        Frac sum = Frac.of(0, 1);
        Frac[] likely = payings(now, ab / 10, ab % 10, n);
        for (int r = 0; r < 9; r++) sum = sum.plus(likely[r].times(Frac.of(r, 1)));
        return sum.part(part);
    }

    Frac staying(Coins coins, int n) {
        List<Frac> all = new ArrayList<>();
        for (int by = 0; by < people && n > 0; by++) {
            for (int to = 0; to < people; to++) {
                if (by == to || coins.given(by, to) == null) continue;
                Frac taken = Frac.of(12 - lawFor(coins, by, to), 12);
                all.add(taken.times(staying(coins.given(by, to), n - 1)));
            }
        }
        if (all.isEmpty()) return Frac.of(1, 1);
        Frac sum = Frac.of(0, 1);
        for (Frac each : all) sum = sum.plus(each);
        return sum.times(Frac.of(1, all.size()));
    }

    long stays(int n, int part) {
        if (n < 0 || n > 2 || part < 0 || part > 1) return Long.MIN_VALUE;
        return staying(now, n).part(part);
    }

    int hands(int shelf, int what) {
        if (shelf < 0 || shelf > 5 || what < 0 || what > 1 || shelves[shelf].kind != 0) return VOID;
        List<Integer> hands = new ArrayList<>();
        for (long v : shelves[shelf].row) {
            if (!one((int) v) || hands.size() == 10) break;
            hands.add((int) v);
        }
        int best = 0, place = 0;
        for (int i = 1; i < hands.size(); i++) {
            int gain = pride[hands.get(i)];
            for (int j = i + 1; j < hands.size(); j++) gain -= 4 - notch;
            if (gain > best) {
                best = gain;
                place = i;
            }
        }
        return what == 0 ? best : place;
    }

    /** One coin after the other is looked at, without laying it back. */
    Frac found(int cut, int bad, int t, int m) {
        if (m <= 0) return Frac.of(1, 1);
        if (t == 0 || cut == 0) return Frac.of(0, 1);
        Frac sum = Frac.of(0, 1);
        if (bad > 0) sum = sum.plus(Frac.of(bad, cut).times(found(cut - 1, bad - 1, t - 1, m - 1)));
        if (cut > bad) sum = sum.plus(Frac.of(cut - bad, cut).times(found(cut - 1, bad, t - 1, m)));
        return sum;
    }

    final Map<Integer, Frac> knownFound = new HashMap<>();

    Frac foundOf(int one, int t, int m) {
        int cut = now.c[one], bad = Math.min(forged[one], cut);
        int key = ((cut * 21 + bad) * 21 + Math.min(t, cut)) * 10 + m;
        if (!knownFound.containsKey(key)) knownFound.put(key, found(cut, bad, Math.min(t, cut), m));
        return knownFound.get(key);
    }

    long test(int one, int t, int part) {
        if (!one(one) || t < 0 || t > 20 || part < 0 || part > 1) return Long.MIN_VALUE;
        return foundOf(one, t, 1).part(part);
    }

    int enough(int one, int x) {
        if (!one(one) || x < 0 || x > 12) return BAD;
        for (int t = 0; t <= now.c[one]; t++) {
            Frac f = foundOf(one, t, 1);
            if (f.a.multiply(BigInteger.valueOf(12)).compareTo(f.b.multiply(BigInteger.valueOf(x))) >= 0) return t;
        }
        return NOT;
    }

    long honest(int one, int tm, int part) {
        if (!one(one) || tm < 0 || tm / 10 > 20 || tm % 10 == 0 || part < 0 || part > 1) return Long.MIN_VALUE;
        return foundOf(one, tm / 10, tm % 10).part(part);
    }

    int dowry(int set, int n) {
        if (set < 0 || set >> people != 0 || n < 0 || n > 99) return BAD;
        int[] gives = new int[6];
        int given = 0;
        // Coin by coin, from the first who still has one.
        while (given < n) {
            int from = 0;
            while (from < people && ((set >> from & 1) == 0 || gives[from] == now.w[from])) from++;
            if (from >= people) return NOT;
            gives[from]++;
            given++;
        }
        int bits = 0;
        for (int i = 0; i < people; i++) if (gives[i] > 0 && gives[i] == now.w[i]) bits |= 1 << i;
        return bits;
    }

    int richest(int one) {
        if (!one(one)) return BAD;
        int bits = 0;
        for (int worth = 0; worth < 5; worth++) {
            boolean is = true;
            for (int i = 0; i < people; i++) {
                int mine = 4 * now.w[one] + worth * now.c[one], his = 4 * now.w[i] + worth * now.c[i];
                if (his > mine || his == mine && i < one) is = false;
            }
            if (is) bits |= 1 << worth;
        }
        return bits;
    }

    // ---- purses read back

    /** Ways, fewest, bits of it, certain ones. */
    long[] waysFrom(Coins coins, List<int[]> offers, int place, long[] told) {
        if (place == offers.size()) {
            for (int i = 0; i < people; i++) {
                if (2 * i < told.length && told[2 * i] != coins.w[i]) return new long[] {0, 99, 0, -1};
                if (2 * i + 1 < told.length && told[2 * i + 1] != coins.c[i]) return new long[] {0, 99, 0, -1};
            }
            return new long[] {1, 0, 0, 0};
        }
        int[] o = offers.get(place);
        Coins yes = o[2] == 1 ? coins.cutGiven(o[0], o[1]) : coins.given(o[0], o[1]);
        if (yes == null) return new long[] {0, 99, 0, -1};
        long[] a = waysFrom(yes, offers, place + 1, told);
        if (o[2] == 1) return a;
        long[] b = waysFrom(coins.refused(o[0], o[1]), offers, place + 1, told);
        if (b[0] == 0) return a;
        b = new long[] {b[0], b[1] + 1, b[2] | 1L << place, b[3] | 1L << place};
        if (a[0] == 0) return b;
        boolean first = a[1] < b[1] || a[1] == b[1] && a[2] < b[2];
        return new long[] {a[0] + b[0], first ? a[1] : b[1], first ? a[2] : b[2], a[3] & b[3]};
    }

    int behind(int evening, int told, int what) {
        if (evening < 0 || evening > 5 || told < 0 || told > 5 || what < 0 || what > 3) return BAD;
        if (notBytes(evening) != 0) return notBytes(evening);
        if (notBytes(told) != 0) return notBytes(told);
        long[] all = waysFrom(now, offers(evening), 0, shelves[told].row);
        if (what == 0) return (int) all[0];
        if (what == 3) return all[0] == 0 ? 0 : (int) all[3];
        if (all[0] == 0) return NOT;
        return what == 1 ? (int) all[1] : (int) all[2];
    }

    int drawn(int seed, int nm, int what) {
        int n = nm / 100, m = nm % 100;
        if (nm < 0 || n < 1 || n > 30 || m < 1 || m > 30 || what < 0 || what > 1) return BAD;
        if (people == 0) return 0;
        int z = seed, whole = 0, refused = 0;
        for (int i = 0; i < n; i++) {
            Coins coins = now;
            for (int j = 0; j < m; j++) {
                z = z * 1103515245 + 12345;
                int by = (z >>> 8) % people, to = (z >>> 12) % people;
                if (by == to || coins.given(by, to) == null) continue;
                if ((z >>> 20) % 12 < lawFor(coins, by, to)) {
                    coins = coins.refused(by, to);
                    refused++;
                } else {
                    coins = coins.given(by, to);
                }
            }
            for (int p = 0; p < people; p++) whole += coins.w[p];
        }
        return what == 0 ? whole : refused;
    }

    // ---- in deed

    int offer(int ab, int kind) {
        if (!two(ab) || kind < 0 || kind > 2) return BAD;
        int by = ab / 10, to = ab % 10;
        Coins next = kind == 0 ? now.given(by, to) : kind == 1 ? now.refused(by, to) : now.cutGiven(by, to);
        if (next == null) return STATE;
        now = next;
        led[0]++;
        if (kind == 1) led[1]++;
        return kind == 1 ? by : to;
    }

    int mint(int one) {
        if (!one(one)) return BAD;
        if (now.c[one] == 0 || now.w[one] == 20) return STATE;
        now.c[one]--;
        led[2]++;
        return ++now.w[one];
    }

    int hour() {
        led[3]++;
        return hour = (hour + 1) % 12;
    }

    int led(int what) {
        return what < 0 || what > 3 ? BAD : led[what];
    }

    int image() {
        imageCoins = now.copy();
        imagePeople = people;
        imageHour = hour;
        imageLed = led.clone();
        return led[0];
    }

    int back() {
        if (imageCoins == null) return STATE;
        for (int i = 0; i < imagePeople; i++) {
            now.w[i] = imageCoins.w[i];
            now.c[i] = imageCoins.c[i];
        }
        hour = imageHour;
        System.arraycopy(imageLed, 0, led, 0, 4);
        return led[0];
    }

    int undo() {
        if (done.isEmpty()) return STATE;
        int[] change = done.remove(done.size() - 1);
        set(change[0], change[1], change[2]);
        undone.add(change);
        return done.size();
    }

    int redo() {
        if (undone.isEmpty()) return STATE;
        int[] change = undone.remove(undone.size() - 1);
        set(change[0], change[1], change[3]);
        done.add(change);
        return undone.size();
    }

    // ---- acts, shelves

    int body(int kind) {
        if (kind < 0 || kind > 7) return BAD;
        if (bodies.size() == 50) return FULL;
        bodies.add(kind);
        return bodies.size() - 1;
    }

    int act(int body, int act, int x) {
        trace.clear();
        if (body < 0 || body >= bodies.size() || act < 0 || act > 3) return 0;
        NaiveKinds.No self = NaiveKinds.made(bodies.get(body), body, trace);
        return switch (act) {
            case 0 -> self.offers(x);
            case 1 -> self.notches(x);
            case 2 -> self.takes(x);
            default -> self.tells(x);
        };
    }

    int trace(int i) {
        return i < 0 || i > 23 || i >= trace.size() ? BAD : trace.get(i);
    }

    int keep(int shelf, int body) {
        if (shelf < 0 || shelf > 5 || body < -1 || body >= bodies.size()) return BAD;
        shelves[shelf] = new Shelf();
        if (body >= 0) {
            shelves[shelf].kind = -1;
            shelves[shelf].body = body;
        }
        return 1;
    }

    int row(int shelf, int sort, int n) {
        if (shelf < 0 || shelf > 5 || sort < 0 || sort > 4 || n > 60) return BAD;
        if (n < 0) return -14;
        shelves[shelf] = new Shelf();
        shelves[shelf].kind = sort;
        shelves[shelf].row = new long[n];
        return 1;
    }

    int put(int shelf, int i, long v) {
        if (shelf < 0 || shelf > 5) return BAD;
        Shelf s = shelves[shelf];
        if (s.kind == -2) return -11;
        if (s.kind == -1) return -12;
        if (i < 0 || i >= s.row.length) return -13;
        s.row[i] = switch (s.kind) {
            case 0 -> (byte) v;
            case 1 -> (short) v;
            case 2 -> (int) v;
            case 3 -> v;
            default -> v == 0 ? 0 : 1;
        };
        return 1;
    }

    long element(int shelf, int i) {
        if (shelf < 0 || shelf > 5) return Long.MIN_VALUE;
        Shelf s = shelves[shelf];
        if (s.kind < 0) return Long.MIN_VALUE;
        return i < 0 || i >= s.row.length ? Long.MIN_VALUE : s.row[i];
    }

    int shift(int shelf, int i, int other, int j, int n) {
        if (shelf < 0 || shelf > 5 || other < 0 || other > 5) return BAD;
        Shelf s = shelves[shelf], o = shelves[other];
        if (s.kind == -2 || o.kind == -2) return -11;
        if (s.kind == -1 || o.kind != s.kind) return -12;
        if (n < 0 || i < 0 || j < 0 || (long) i + n > s.row.length || (long) j + n > o.row.length) return -13;
        long[] before = s.row.clone();
        for (int k = 0; k < n; k++) o.row[j + k] = before[i + k];
        return n;
    }

    int taken(int shelf, int k) {
        if (shelf < 0 || shelf > 5 || k < 0 || k > 7) return BAD;
        Shelf s = shelves[shelf];
        if (s.kind == -2) return -11;
        if (s.kind != -1) return -12;
        NaiveKinds.No self = NaiveKinds.made(bodies.get(s.body), s.body, new ArrayList<>());
        return NaiveKinds.CLASSES.get(k).isInstance(self) ? bodies.get(s.body) : -12;
    }

    int count(int what) {
        switch (what) {
            case 0: return people;
            case 1: return Arrays.stream(now.w, 0, people).sum();
            case 2: return Arrays.stream(now.c, 0, people).sum();
            case 3: return tape.length();
            case 4: return done.size();
            case 5: return bodies.size();
            case 6: return trace.size();
            default: return BAD;
        }
    }
}
