import java.util.ArrayList;
import java.util.List;
import java.util.Random;

/** Runs of calls by fixed seeds, each answer held against Naive, the document read once more. */
public final class FuzzTest {
    private static final int RUNS = 1500;

    private final Random random;
    private final RefusedOnce x = new RefusedOnce();
    private final Naive y = new Naive();
    private final List<String> calls = new ArrayList<>();
    private final int style;
    private boolean wrong;

    private FuzzTest(int seed) {
        random = new Random(seed * 7919L + 17);
        style = seed % 6;
    }

    public static void main(String[] args) {
        int runs = args.length > 1 ? Integer.parseInt(args[1]) : RUNS;
        int from = args.length > 2 ? Integer.parseInt(args[2]) : 0;
        int wrong = 0;
        for (int seed = from; seed < from + runs && wrong < 3; seed++) {
            FuzzTest test = new FuzzTest(seed);
            for (int i = 0; i < 512 && !test.wrong; i++) test.call();
            if (test.wrong) {
                wrong++;
                System.out.println("run " + seed + ":");
                for (String call : test.calls) System.out.println("  " + call);
            }
        }
        System.out.println(wrong == 0 ? "all runs agree" : wrong + " runs don't agree");
        if (wrong != 0) System.exit(1);
    }

    private void due(String call, long got, long want) {
        if (wrong) return;
        calls.add(call + " = " + got);
        if (got != want) {
            wrong = true;
            calls.add("due is " + want);
        }
    }

    private int upTo(int n) {
        return random.nextInt(n);
    }

    /** Mostly from low to high, seldom beside it, and seldom anything. */
    private int around(int low, int high) {
        int kind = upTo(40);
        if (kind == 0) return low - 1 - upTo(2);
        if (kind == 1) return high + 1 + upTo(2);
        if (kind == 2) {
            int[] odd = {Integer.MIN_VALUE, Integer.MAX_VALUE, Integer.MIN_VALUE + 1, -1000, 1000, random.nextInt()};
            return odd[upTo(odd.length)];
        }
        return low + upTo(high - low + 1);
    }

    private int one() {
        return around(0, Math.max(0, y.people - 1));
    }

    private int two() {
        if (upTo(10) == 0 || y.people < 2) return around(0, 55);
        int by = upTo(y.people), to = (by + 1 + upTo(y.people - 1)) % y.people;
        return 10 * by + to;
    }

    private int shelf() {
        return around(0, 5);
    }

    private void call() {
        int want = style == 5 ? 4 + upTo(3) : 1 + upTo(6);
        if (y.people < want && upTo(4) == 0) {
            int v = style == 1 ? around(15, 20) : style == 2 ? around(0, 3) : around(0, 20);
            due("person(" + v + ")", x.person(v), y.person(v));
        }
        switch (upTo(20)) {
            case 0 -> people();
            case 1, 2 -> mending();
            case 3, 4 -> taping();
            case 5, 6, 7 -> evenings();
            case 8 -> rounds();
            case 9, 10 -> likely();
            case 11 -> ofOne();
            case 12, 13 -> readBack();
            case 14, 15 -> deeds();
            case 16 -> doneAgain();
            case 17 -> acting();
            case 18 -> shelving();
            default -> counting();
        }
    }

    private void people() {
        int s = shelf();
        if (upTo(3) == 0) {
            int size = upTo(20);
            row(s, upTo(8) == 0 ? upTo(5) : 0, size);
            for (int i = 0; i < size; i++) put(s, i, upTo(15) == 0 ? around(-1, 21) : upTo(13));
        }
        int i = around(0, 10), n = around(1, 6);
        due("people(" + s + ", " + i + ", " + n + ")", x.people(s, i, n), y.people(s, i, n));
    }

    private void mending() {
        int what = around(0, 6);
        int number = what > 3 && upTo(6) > 0 ? 0 : one();
        int v = style == 1 && what < 2 ? around(15, 20) : style == 2 && what < 2 ? around(0, 4)
            : what == 4 ? around(0, 4) : what == 5 ? around(0, 11) : what > 3 || what == 2 ? around(0, 12) : around(0, 20);
        due("mend(" + number + ", " + what + ", " + v + ")", x.mend(number, what, v), y.mend(number, what, v));
        what = around(0, 8);
        number = what > 3 && what < 7 && upTo(6) > 0 ? 0 : one();
        due("of(" + number + ", " + what + ")", x.of(number, what), y.of(number, what));
    }

    private String text(int deep) {
        int kind = upTo(deep > 4 ? 2 : 10);
        if (kind < 1) return "" + upTo(upTo(3) == 0 ? 10000 : 13);
        if (kind < 4) return "" + "pbwchn".charAt(upTo(6));
        if (kind == 4) return "!" + operand(deep);
        if (kind == 5) return "-" + operand(deep);
        if (kind == 6) return "(" + text(deep + 1) + ")";
        return text(deep + 1) + "|&<=>+-*/%".charAt(upTo(10)) + text(deep + 1);
    }

    private String operand(int deep) {
        return upTo(2) == 0 ? "(" + text(deep + 1) + ")" : "pbwchn".substring(upTo(6)).substring(0, 1);
    }

    private void taping() {
        if (upTo(3) > 0) return;
        StringBuilder text = new StringBuilder(text(0));
        int lines = upTo(4) == 0 ? upTo(4) : 0;
        for (int i = 0; i < lines; i++) text.append(upTo(2) == 0 ? ";" : "?").append(text(2));
        for (int k = upTo(3); k > 0 && text.length() > 0; k--) {
            int at = upTo(text.length());
            String signs = "pbwchn0123456789|&<=>+-*/%!();?x";
            int kind = upTo(8);
            if (kind == 0) text.deleteCharAt(at);
            if (kind == 1) text.setCharAt(at, signs.charAt(upTo(signs.length())));
            if (kind == 2) text.insert(at, signs.charAt(upTo(signs.length())));
            if (kind == 3) text.insert(at, "(!-(!-".substring(upTo(6)));
            if (kind == 4) text.setLength(at);
        }
        if (text.length() > (upTo(3) == 0 ? 130 : 60)) return;
        for (int i = 0; i < text.length(); i++) {
            int letter = text.charAt(i);
            due("feed(" + letter + ")", x.feed(letter), y.feed(letter));
        }
        int letter = around(0, 255);
        if (upTo(30) == 0) due("feed(" + letter + ")", x.feed(letter), y.feed(letter));
        due("law() of " + text, x.law(), y.law());
        for (int i = 0; i < 3; i++) {
            int ab = two();
            due("odds(" + ab + ")", x.odds(ab), y.odds(ab));
        }
    }

    private void row(int s, int sort, int n) {
        due("row(" + s + ", " + sort + ", " + n + ")", x.row(s, sort, n), y.row(s, sort, n));
    }

    private void put(int s, int i, long v) {
        due("put(" + s + ", " + i + ", " + v + ")", x.put(s, i, v), y.put(s, i, v));
    }

    private int offered() {
        if (upTo(60) == 0) return upTo(256);
        int ab = two();
        return ab / 10 * 20 + ab % 10 * 2 + (upTo(4) == 0 ? 1 : 0);
    }

    /** A row of offers. */
    private void told(int s, int most) {
        int size = upTo(most + 1);
        row(s, upTo(25) == 0 ? upTo(5) : 0, size);
        for (int i = 0; i < size; i++) put(s, i, offered());
    }

    private void evenings() {
        int s = shelf();
        if (upTo(3) == 0) told(s, upTo(4) == 0 ? 24 : 10);
        int n = around(0, 20), one = one(), what = around(0, 2);
        due("later(" + s + ", " + n + ", " + one + ", " + what + ")", x.later(s, n, one, what), y.later(s, n, one, what));
        what = around(0, 2);
        due("evening(" + s + ", " + n + ", " + what + ")", x.evening(s, n, what), y.evening(s, n, what));
    }

    private void rounds() {
        int s = shelf();
        if (upTo(2) == 0) {
            int size = upTo(upTo(5) == 0 ? 26 : 10);
            row(s, upTo(25) == 0 ? upTo(5) : 0, size);
            for (int i = 0; i + 1 < size; i += 2) {
                int ab = two();
                put(s, i, ab / 10);
                put(s, i + 1, ab % 10);
            }
        }
        int k = around(-1, 9);
        due("round(" + s + ", -1)", x.round(s, -1), y.round(s, -1));
        due("round(" + s + ", " + k + ")", x.round(s, k), y.round(s, k));
        due("cleanest(" + s + ")", x.cleanest(s), y.cleanest(s));
    }

    private void likely() {
        int ab = two(), n = around(0, 8), r = around(0, 8), part = around(0, 1);
        switch (upTo(6)) {
            case 0, 1 -> due("pay(" + ab + ", " + n + ", " + r + ", " + part + ")", x.pay(ab, n, r, part), y.pay(ab, n, r, part));
            case 2 -> due("mean(" + ab + ", " + n + ", " + part + ")", x.mean(ab, n, part), y.mean(ab, n, part));
            case 3 -> {
                n = around(0, 2);
                due("stays(" + n + ", " + part + ")", x.stays(n, part), y.stays(n, part));
            }
            default -> {
                int s = shelf(), size = upTo(13), what = around(0, 1);
                row(s, upTo(9) == 0 ? upTo(5) : 0, size);
                for (int i = 0; i < size; i++) put(s, i, one());
                due("hands(" + s + ", " + what + ")", x.hands(s, what), y.hands(s, what));
            }
        }
    }

    private void ofOne() {
        int one = one(), t = around(0, 20), part = around(0, 1), cards = around(0, 12);
        if (upTo(2) == 0) {
            int c = upTo(21), f = upTo(21);
            due("mend(" + one + ", 1, " + c + ")", x.mend(one, 1, c), y.mend(one, 1, c));
            due("mend(" + one + ", 3, " + f + ")", x.mend(one, 3, f), y.mend(one, 3, f));
        }
        due("test(" + one + ", " + t + ", " + part + ")", x.test(one, t, part), y.test(one, t, part));
        due("enough(" + one + ", " + cards + ")", x.enough(one, cards), y.enough(one, cards));
        int tm = upTo(5) == 0 ? around(0, 210) : 10 * upTo(21) + upTo(5);
        due("honest(" + one + ", " + tm + ", " + part + ")", x.honest(one, tm, part), y.honest(one, tm, part));
        int set = around(0, (1 << y.people) - 1), n = upTo(2) == 0 ? around(0, 99) : upTo(30);
        due("dowry(" + set + ", " + n + ")", x.dowry(set, n), y.dowry(set, n));
        due("richest(" + one + ")", x.richest(one), y.richest(one));
    }

    private void readBack() {
        int s = shelf(), t = shelf(), what = around(0, 3);
        if (upTo(2) == 0) told(s, upTo(60) == 0 ? 20 : 11);
        boolean isOne = s >= 0 && s < 6 && y.shelves[s].kind == 0;
        if (isOne && y.offers(s).size() > 13 && upTo(12) > 0) return;
        if (t != s && upTo(3) > 0 && isOne) purses(s, t);
        for (int i = 0; i < 2; i++) {
            due("behind(" + s + ", " + t + ", " + what + ")", x.behind(s, t, what), y.behind(s, t, what));
            what = upTo(4);
        }
    }

    /** Purses that may be behind the evening: of a way by chance; seldom one is told otherwise. */
    private void purses(int s, int t) {
        Naive.Coins coins = y.now;
        for (int[] o : y.offers(s)) {
            Naive.Coins next = o[2] == 1 ? coins.cutGiven(o[0], o[1])
                : upTo(2) == 0 ? coins.given(o[0], o[1]) : coins.refused(o[0], o[1]);
            if (next != null) coins = next;
        }
        int size = upTo(3) == 0 ? upTo(15) : 2 * y.people;
        row(t, upTo(40) == 0 ? upTo(5) : 0, size);
        for (int i = 0; i < size; i++) {
            int person = i / 2;
            int v = person > 5 ? upTo(20) : i % 2 == 0 ? coins.w[person] : coins.c[person];
            put(t, i, upTo(100) == 0 ? around(0, 20) : v);
        }
    }

    private void deeds() {
        int ab = two(), kind = around(0, 2), one = one();
        switch (upTo(8)) {
            case 0, 1, 2 -> due("offer(" + ab + ", " + kind + ")", x.offer(ab, kind), y.offer(ab, kind));
            case 3 -> due("mint(" + one + ")", x.mint(one), y.mint(one));
            case 4 -> due("hour()", x.hour(), y.hour());
            case 5 -> due("image()", x.image(), y.image());
            case 6 -> due("back()", x.back(), y.back());
            default -> {
                int seed = random.nextInt(), nm = 100 * around(1, 30) + around(1, 30), what = around(0, 1);
                due("drawn(" + seed + ", " + nm + ", " + what + ")", x.drawn(seed, nm, what), y.drawn(seed, nm, what));
            }
        }
        int what = around(0, 3);
        due("led(" + what + ")", x.led(what), y.led(what));
    }

    private void doneAgain() {
        int times = upTo(upTo(6) == 0 ? 50 : 4);
        for (int i = 0; i < times; i++) due("undo()", x.undo(), y.undo());
        times = upTo(upTo(6) == 0 ? 50 : 4);
        for (int i = 0; i < times; i++) due("redo()", x.redo(), y.redo());
        // Enough of them to lose the oldest.
        if (upTo(20) == 0) for (int i = 0; i < 45; i++) mending();
    }

    private void acting() {
        int kind = around(0, 7), times = upTo(20) == 0 ? 12 : 1;
        for (int i = 0; i < times; i++) due("body(" + kind + ")", x.body(kind), y.body(kind));
        int body = around(0, Math.max(0, y.bodies.size() - 1)), act = around(0, 3);
        int v = upTo(3) == 0 ? random.nextInt() : around(-9, 9);
        due("act(" + body + ", " + act + ", " + v + ")", x.act(body, act, v), y.act(body, act, v));
        for (int i = 0; i < 5; i++) {
            int place = around(0, 12);
            due("trace(" + place + ")", x.trace(place), y.trace(place));
        }
        int s = shelf();
        body = around(-1, Math.max(0, y.bodies.size() - 1));
        due("keep(" + s + ", " + body + ")", x.keep(s, body), y.keep(s, body));
        for (int i = 0; i < 3; i++) {
            kind = around(0, 7);
            due("taken(" + s + ", " + kind + ")", x.taken(s, kind), y.taken(s, kind));
        }
    }

    private void shelving() {
        int s = shelf(), other = shelf();
        if (upTo(3) == 0) row(s, around(0, 4), around(0, 60));
        for (int i = 0; i < 4; i++) {
            long v = upTo(3) == 0 ? random.nextLong() : around(-300, 300);
            put(s, around(0, 8), v);
        }
        int i = around(0, 5), j = around(0, 5), n = around(0, 5);
        due("shift(" + s + ", " + i + ", " + other + ", " + j + ", " + n + ")",
            x.shift(s, i, other, j, n), y.shift(s, i, other, j, n));
        for (int k = 0; k < 4; k++) {
            int place = around(0, 10);
            due("element(" + other + ", " + place + ")", x.element(other, place), y.element(other, place));
        }
        int kind = around(0, 7);
        due("taken(" + s + ", " + kind + ")", x.taken(s, kind), y.taken(s, kind));
    }

    private void counting() {
        int what = around(0, 6);
        due("count(" + what + ")", x.count(what), y.count(what));
    }
}
