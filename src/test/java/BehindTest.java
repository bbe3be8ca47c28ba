import java.util.Random;

/** Long evenings read back, held against all ways walked one by one. */
public final class BehindTest {
    private static final int CASES = 160;

    private final Random random;
    private final RefusedOnce x = new RefusedOnce();
    private final int people;
    private final int[] start = new int[12];
    private final int[] by = new int[20], to = new int[20], kind = new int[20];
    private final int length;
    private int[] told;

    private BehindTest(int seed) {
        random = new Random(seed * 31337L + 5);
        people = seed % 5 + 2;
        length = seed % 8 == 0 ? 20 : 10 + random.nextInt(8);
        int style = seed / 5 % 5;
        for (int i = 0; i < people; i++) {
            int whole = style == 0 ? 10 : style == 1 ? random.nextInt(5) : style == 2 ? 15 + random.nextInt(6) : random.nextInt(21);
            int cut = style == 0 ? 0 : style == 1 ? random.nextInt(3) : style == 2 ? 14 + random.nextInt(7) : random.nextInt(21);
            x.person(whole);
            x.mend(i, 1, cut);
            start[i] = whole;
            start[6 + i] = cut;
        }
        x.row(0, 0, length);
        int[] now = start.clone();
        for (int i = 0; i < length; i++) {
            // Mostly an offer that can be, so that there are ways.
            for (int tries = 0; tries < 30; tries++) {
                by[i] = random.nextInt(people);
                to[i] = (by[i] + 1 + random.nextInt(people - 1)) % people;
                kind[i] = random.nextInt(6) == 0 ? 1 : 0;
                if (went(now, i, random.nextBoolean())) break;
            }
            x.put(0, i, 20 * by[i] + 2 * to[i] + kind[i]);
        }
        int size = random.nextInt(3) == 0 ? random.nextInt(2 * people + 1) : 2 * people;
        told = new int[size];
        x.row(1, 0, size);
        for (int i = 0; i < size; i++) {
            told[i] = now[i % 2 * 6 + i / 2];
            x.put(1, i, told[i]);
        }
    }

    private boolean went(int[] now, int i, boolean refused) {
        int w = by[i], c = 6 + by[i], v = to[i], d = 6 + to[i];
        if (kind[i] == 1) {
            if (now[c] < 1 || now[d] > 19) return false;
            now[c]--;
            now[d]++;
            return true;
        }
        if (now[w] < 1 || now[v] > 19 || now[c] > 19) return false;
        now[w]--;
        now[refused ? c : v]++;
        return true;
    }

    private boolean agrees() {
        int ways = 0, best = Integer.MAX_VALUE, always = -1;
        int whole = 0;
        for (int i = 0; i < length; i++) if (kind[i] == 0) whole |= 1 << i;
        int[] now = new int[12];
        // All parts of the set of whole ones.
        for (int no = whole; ; no = no - 1 & whole) {
            System.arraycopy(start, 0, now, 0, 12);
            boolean can = true;
            for (int i = 0; i < length && can; i++) can = went(now, i, (no >> i & 1) == 1);
            for (int i = 0; i < told.length && can; i++) can = told[i] == now[i % 2 * 6 + i / 2];
            if (can) {
                ways++;
                best = Math.min(best, Integer.bitCount(no) << 20 | no);
                always &= no;
            }
            if (no == 0) break;
        }
        return due(0, ways) & due(1, ways == 0 ? -2 : best >> 20) & due(2, ways == 0 ? -2 : best & 0xfffff)
            & due(3, ways == 0 ? 0 : always);
    }

    private boolean due(int what, int want) {
        int got = x.behind(0, 1, what);
        if (got != want) System.out.println("behind(0, 1, " + what + ") answered " + got + ", due is " + want);
        return got == want;
    }

    public static void main(String[] args) {
        int wrong = 0;
        for (int seed = 0; seed < CASES; seed++) {
            if (!new BehindTest(seed).agrees()) {
                wrong++;
                System.out.println("in case " + seed);
            }
        }
        System.out.println(wrong == 0 ? "all evenings are read back" : wrong + " evenings are not");
        if (wrong != 0) System.exit(1);
    }
}
