/**
 * Whole coins and notched ones, and people with pride who say no to an offered one.
 *
 * Every row that a call needs is made with the object and used again, since all
 * calls of a run share one room; so no call makes an object.
 */
public final class RefusedOnce {
    public static final int BAD = -1, NOT = -2, FULL = -3, STATE = -5, VOID = -2000000000;

    private static final long NO_ANSWER = 1L << 63;
    private static final int NOTHING = -11, UNLIKE = -12, NO_PLACE = -13, NO_SIZE = -14;
    private static final int MOST_PEOPLE = 6, MOST_COINS = 20, TWELVE = 12, WHOLE_WORTH = 4;
    private static final int MOST_SHELVES = 6, MOST_OFFERS = 20, MOST_HANDS = 10;
    private static final int WHOLE = 0, CUT = 1, PRIDE = 2, FORGED = 3, NOTCH = 4, HOUR = 5, HABIT = 6;
    private static final int OFFERED = 0, REFUSED = 1, MINTED = 2, HOURS = 3;

    private final Land land;
    private final Law theLaw;
    private final Shelf[] shelves;
    private final Evening thought;
    private final Payings payings;
    private final Chances chances;
    private final Changes changes;
    private final Bodies bodies;
    private final Ways ways;

    public RefusedOnce() {
        land = new Land();
        theLaw = new Law();
        shelves = new Shelf[MOST_SHELVES];
        for (int i = 0; i < MOST_SHELVES; i++) {
            shelves[i] = new Shelf();
        }
        thought = new Evening(land, theLaw);
        payings = new Payings(land, theLaw);
        chances = new Chances(land, theLaw);
        changes = new Changes();
        bodies = new Bodies();
        ways = new Ways(land, thought);
    }

    // ---- people

    public int person(int whole) {
        if (!within(whole, 0, MOST_COINS)) {
            return BAD;
        }
        return land.comes(whole, 0, Land.FIRST_PRIDE) ? land.howMany() - 1 : FULL;
    }

    public int people(int shelf, int i, int n) {
        Shelf from = shelfAt(shelf);
        if (from == null || !within(n, 1, MOST_PEOPLE)) {
            return BAD;
        }
        if (from.isEmpty()) {
            return 0;
        }
        if (!from.holdsBytes()) {
            return UNLIKE;
        }
        return i < 0 ? 0 : comeFrom(from, i, n);
    }

    private int comeFrom(Shelf from, int i, int n) {
        int came = 0;
        // Counted back from the row's end, since i + 3 * came could wrap.
        while (came < n && i <= from.length() - 3 * (came + 1)) {
            int place = i + 3 * came;
            if (!land.comes(from.byteAt(place), from.byteAt(place + 1), from.byteAt(place + 2))) {
                return came;
            }
            came++;
        }
        return came;
    }

    public int mend(int number, int what, int v) {
        if (!land.has(number, what) || !Land.allows(what, v)) {
            return BAD;
        }
        int was = land.told(number, what);
        if (was != v) {
            land.tell(number, what, v);
            changes.note(number, what, was, v);
        }
        return was;
    }

    public int of(int number, int what) {
        if (land.has(number, what)) {
            return land.told(number, what);
        }
        if (!land.isPerson(number)) {
            return BAD;
        }
        if (what == 7) {
            return land.farthings(land.now, number);
        }
        return what == 8 ? land.forgedThatCount(number) : BAD;
    }

    public int feed(int letter) {
        if (!within(letter, 0, 255)) {
            return BAD;
        }
        return theLaw.takesByte(letter) ? theLaw.fedBytes() : FULL;
    }

    public int law() {
        int fault = theLaw.read();
        return fault < 0 ? 1 : -100 - fault;
    }

    public int odds(int ab) {
        return areTwo(ab) ? theLaw.twelfths(land, land.now, ab / 10, ab % 10) : BAD;
    }

    // ---- evenings in thought

    public int later(int shelf, int n, int one, int what) {
        Shelf row = shelfAt(shelf);
        if (row == null || !within(n, 0, MOST_OFFERS) || !land.isPerson(one) || !within(what, 0, 2)) {
            return BAD;
        }
        if (!row.holdsBytes()) {
            return row.refusal();
        }
        thought.read(row);
        thought.play(n);
        if (what == 2) {
            return land.farthings(thought.purses, one);
        }
        return what == 0 ? thought.purses.wholeOf(one) : thought.purses.cutOf(one);
    }

    public int evening(int shelf, int n, int what) {
        Shelf row = shelfAt(shelf);
        if (row == null || !within(n, 0, MOST_OFFERS) || !within(what, 0, 2)) {
            return BAD;
        }
        if (!row.holdsBytes()) {
            return row.refusal();
        }
        thought.read(row);
        thought.play(n);
        if (what == 0) {
            return thought.refusals();
        }
        return what == 1 ? thought.firstThatCannotBe() : thought.whoRefused();
    }

    public int round(int shelf, int k) {
        Shelf row = shelfAt(shelf);
        if (row == null || k < -1) {
            return BAD;
        }
        if (!row.holdsBytes()) {
            return row.refusal();
        }
        payings.read(row);
        if (k >= payings.length() || !payings.find(false)) {
            return NOT;
        }
        return k < 0 ? payings.found() : payings.kindAt(k);
    }

    public int cleanest(int shelf) {
        Shelf row = shelfAt(shelf);
        if (row == null) {
            return BAD;
        }
        if (!row.holdsBytes()) {
            return row.refusal();
        }
        payings.read(row);
        return payings.length() > 0 && payings.find(true) ? payings.found() : NOT;
    }

    // ---- odds

    public long pay(int ab, int n, int r, int part) {
        if (!areTwo(ab) || !within(n, 0, Chances.MOST_PAID) || !within(r, 0, Chances.MOST_PAID) || !isPart(part)) {
            return NO_ANSWER;
        }
        chances.justSoMany(ab / 10, ab % 10, n, r);
        return chances.part(part);
    }

    public long mean(int ab, int n, int part) {
        if (!areTwo(ab) || !within(n, 0, Chances.MOST_PAID) || !isPart(part)) {
            return NO_ANSWER;
        }
        chances.meanRefused(ab / 10, ab % 10, n);
        return chances.part(part);
    }

    public long stays(int n, int part) {
        if (!within(n, 0, 2) || !isPart(part)) {
            return NO_ANSWER;
        }
        chances.allStayWhole(n);
        return chances.part(part);
    }

    public int hands(int shelf, int what) {
        Shelf row = shelfAt(shelf);
        if (row == null || !within(what, 0, 1) || !row.holdsBytes()) {
            return VOID;
        }
        int length = handsOn(row);
        // That none says no is worth 0 at place 0, so it is what others must pass.
        int best = 0;
        int place = 0;
        for (int i = 1; i < length; i++) {
            int lost = (length - 1 - i) * (WHOLE_WORTH - land.told(0, NOTCH));
            int gain = land.told(row.byteAt(i), PRIDE) - lost;
            if (gain > best) {
                best = gain;
                place = i;
            }
        }
        return what == 0 ? best : place;
    }

    private int handsOn(Shelf row) {
        int length = 0;
        while (length < MOST_HANDS && length < row.length() && land.isPerson(row.byteAt(length))) {
            length++;
        }
        return length;
    }

    public long test(int one, int t, int part) {
        if (!land.isPerson(one) || !within(t, 0, MOST_COINS) || !isPart(part)) {
            return NO_ANSWER;
        }
        chances.forgedFound(one, t, 1);
        return chances.part(part);
    }

    public int enough(int one, int x) {
        if (!land.isPerson(one) || !within(x, 0, TWELVE)) {
            return BAD;
        }
        int all = Math.min(land.told(one, CUT), MOST_COINS);
        for (int t = 0; t <= all; t++) {
            chances.forgedFound(one, t, 1);
            if (chances.part(0) * TWELVE >= chances.part(1) * x) {
                return t;
            }
        }
        return NOT;
    }

    public long honest(int one, int tm, int part) {
        boolean isTold = tm >= 0 && within(tm / 10, 0, MOST_COINS) && tm % 10 > 0;
        if (!land.isPerson(one) || !isTold || !isPart(part)) {
            return NO_ANSWER;
        }
        chances.forgedFound(one, tm / 10, tm % 10);
        return chances.part(part);
    }

    public int dowry(int set, int n) {
        if (!within(set, 0, (1 << land.howMany()) - 1) || !within(n, 0, 99)) {
            return BAD;
        }
        int lacking = n;
        int who = 0;
        for (int i = 0; i < land.howMany() && lacking > 0; i++) {
            int has = ((set >> i) & 1) != 0 ? land.told(i, WHOLE) : 0;
            if (has > 0 && has <= lacking) {
                who |= 1 << i;
            }
            lacking -= Math.min(has, lacking);
        }
        return lacking > 0 ? NOT : who;
    }

    public int richest(int one) {
        if (!land.isPerson(one)) {
            return BAD;
        }
        int notches = 0;
        for (int worth = 0; worth <= WHOLE_WORTH; worth++) {
            if (land.richestBy(worth) == one) {
                notches |= 1 << worth;
            }
        }
        return notches;
    }

    // ---- purses read back

    public int behind(int evening, int told, int what) {
        Shelf offers = shelfAt(evening);
        Shelf purses = shelfAt(told);
        if (offers == null || purses == null || !within(what, 0, 3)) {
            return BAD;
        }
        if (!offers.holdsBytes()) {
            return offers.refusal();
        }
        if (!purses.holdsBytes()) {
            return purses.refusal();
        }
        thought.read(offers);
        ways.find(purses);
        if (what == 0) {
            return ways.howMany();
        }
        if (what == 3) {
            return ways.certain();
        }
        if (ways.howMany() == 0) {
            return NOT;
        }
        return what == 1 ? ways.fewest() : ways.fewestBits();
    }

    public int drawn(int seed, int nm, int what) {
        boolean isTold = nm >= 0 && within(nm / 100, 1, 30) && within(nm % 100, 1, 30);
        if (!isTold || !within(what, 0, 1)) {
            return BAD;
        }
        thought.draw(seed, nm / 100, nm % 100);
        return what == 0 ? thought.drawnWhole() : thought.refusals();
    }

    // ---- in deed

    public int offer(int ab, int kind) {
        if (!areTwo(ab) || !within(kind, 0, 2)) {
            return BAD;
        }
        int by = ab / 10;
        int to = ab % 10;
        boolean canBe = kind == 2 ? land.now.mayOfferCut(by, to) : land.now.mayOfferWhole(by, to);
        if (!canBe) {
            return STATE;
        }
        land.leads(OFFERED);
        if (kind == 1) {
            land.now.refuse(by);
            land.leads(REFUSED);
            return by;
        }
        if (kind == 0) {
            land.now.giveWhole(by, to);
        } else {
            land.now.giveCut(by, to);
        }
        return to;
    }

    public int mint(int one) {
        if (!land.isPerson(one)) {
            return BAD;
        }
        int whole = land.told(one, WHOLE);
        int cut = land.told(one, CUT);
        if (cut < 1 || whole >= MOST_COINS) {
            return STATE;
        }
        land.tell(one, CUT, cut - 1);
        land.tell(one, WHOLE, whole + 1);
        land.leads(MINTED);
        return whole + 1;
    }

    public int hour() {
        int next = land.told(0, HOUR) >= 11 ? 0 : land.told(0, HOUR) + 1;
        land.tell(0, HOUR, next);
        land.leads(HOURS);
        return next;
    }

    public int led(int what) {
        return within(what, OFFERED, HOURS) ? land.counted(what) : BAD;
    }

    public int image() {
        land.keepImage();
        return land.counted(OFFERED);
    }

    public int back() {
        return land.layBack() ? land.counted(OFFERED) : STATE;
    }

    public int undo() {
        return changes.undoOn(land) ? changes.mayBeUndone() : STATE;
    }

    public int redo() {
        return changes.redoOn(land) ? changes.mayBeRedone() : STATE;
    }

    // ---- acts, shelves

    public int body(int kind) {
        if (!Bodies.isKind(kind)) {
            return BAD;
        }
        return bodies.comes(kind) ? bodies.howMany() - 1 : FULL;
    }

    public int act(int body, int act, int x) {
        return bodies.acts(body, act, x);
    }

    public int trace(int i) {
        return bodies.traced(i);
    }

    public int keep(int shelf, int body) {
        Shelf on = shelfAt(shelf);
        if (on == null || !within(body, -1, bodies.howMany() - 1)) {
            return BAD;
        }
        on.keepBody(body);
        return 1;
    }

    public int row(int shelf, int sort, int n) {
        Shelf on = shelfAt(shelf);
        if (on == null || !within(sort, 0, Shelf.LAST_SORT) || n > Shelf.MOST_ELEMENTS) {
            return BAD;
        }
        if (n < 0) {
            return NO_SIZE;
        }
        on.becomeRow(sort, n);
        return 1;
    }

    public int put(int shelf, int i, long v) {
        Shelf on = shelfAt(shelf);
        if (on == null) {
            return BAD;
        }
        if (!on.holdsRow()) {
            return on.refusal();
        }
        return on.putIn(i, v) ? 1 : NO_PLACE;
    }

    public long element(int shelf, int i) {
        Shelf on = shelfAt(shelf);
        // The host's refusals are numbers that a row may hold, so none of them is the answer here.
        boolean isThere = on != null && on.holdsRow() && within(i, 0, on.length() - 1);
        return isThere ? on.longAt(i) : NO_ANSWER;
    }

    public int shift(int shelf, int i, int other, int j, int n) {
        Shelf from = shelfAt(shelf);
        Shelf onto = shelfAt(other);
        if (from == null || onto == null) {
            return BAD;
        }
        if (from.isEmpty() || onto.isEmpty()) {
            return NOTHING;
        }
        if (!from.isLike(onto)) {
            return UNLIKE;
        }
        return from.moveTo(i, onto, j, n) ? n : NO_PLACE;
    }

    public int taken(int shelf, int k) {
        Shelf on = shelfAt(shelf);
        if (on == null || !Bodies.isKind(k)) {
            return BAD;
        }
        if (on.isEmpty()) {
            return NOTHING;
        }
        int kind = on.holdsRow() ? BAD : bodies.kindOf(on.bodyKept());
        return Bodies.isUnder(kind, k) ? kind : UNLIKE;
    }

    public int count(int what) {
        switch (what) {
            case 0: return land.howMany();
            case 1: return land.allOf(WHOLE);
            case 2: return land.allOf(CUT);
            case 3: return theLaw.fedBytes();
            case 4: return changes.mayBeUndone();
            case 5: return bodies.howMany();
            case 6: return bodies.ranLately();
            default: return BAD;
        }
    }

    private static boolean within(int v, int low, int high) {
        return v >= low && v <= high;
    }

    private static boolean isPart(int part) {
        return part == 0 || part == 1;
    }

    private boolean areTwo(int ab) {
        return ab >= 0 && land.areTwo(ab / 10, ab % 10);
    }

    private Shelf shelfAt(int shelf) {
        return shelf >= 0 && shelf < shelves.length ? shelves[shelf] : null;
    }

    /** Coins of all, as they are now or in thought. */
    private static final class Purses {
        private final int[] whole = new int[MOST_PEOPLE];
        private final int[] cut = new int[MOST_PEOPLE];

        int wholeOf(int i) {
            return i >= 0 && i < whole.length ? whole[i] : 0;
        }

        int cutOf(int i) {
            return i >= 0 && i < cut.length ? cut[i] : 0;
        }

        void setWhole(int i, int v) {
            if (i >= 0 && i < whole.length) {
                whole[i] = v;
            }
        }

        void setCut(int i, int v) {
            if (i >= 0 && i < cut.length) {
                cut[i] = v;
            }
        }

        void copyFirst(Purses other, int people) {
            for (int i = 0; i < people && i < MOST_PEOPLE; i++) {
                setWhole(i, other.wholeOf(i));
                setCut(i, other.cutOf(i));
            }
        }

        boolean mayOfferWhole(int by, int to) {
            // It could be refused, so there must be room for one more notched coin.
            return wholeOf(by) > 0 && wholeOf(to) < MOST_COINS && cutOf(by) < MOST_COINS;
        }

        boolean mayOfferCut(int by, int to) {
            return cutOf(by) > 0 && cutOf(to) < MOST_COINS;
        }

        void giveWhole(int by, int to) {
            setWhole(by, wholeOf(by) - 1);
            setWhole(to, wholeOf(to) + 1);
        }

        void giveCut(int by, int to) {
            setCut(by, cutOf(by) - 1);
            setCut(to, cutOf(to) + 1);
        }

        void refuse(int by) {
            setWhole(by, wholeOf(by) - 1);
            setCut(by, cutOf(by) + 1);
        }

        void takeBackRefusal(int by) {
            setWhole(by, wholeOf(by) + 1);
            setCut(by, cutOf(by) - 1);
        }
    }

    /** People with what is told of them, what has been led, and the image of it. */
    private static final class Land {
        static final int FIRST_PRIDE = 3;
        private static final int[] MOST = {20, 20, 12, 20, 4, 11, 12};

        final Purses now = new Purses();
        private final int[] pride = new int[MOST_PEOPLE];
        private final int[] forged = new int[MOST_PEOPLE];
        private final int[] led = new int[HOURS + 1];
        private int people;
        private int notch = 3;
        private int hour = 0;
        private int habit = 6;

        private final Purses imageNow = new Purses();
        private final int[] imageLed = new int[HOURS + 1];
        private boolean hasImage;
        private int imagePeople;
        private int imageHour;

        int howMany() {
            return people;
        }

        boolean isPerson(int i) {
            return i >= 0 && i < people && i < MOST_PEOPLE;
        }

        boolean areTwo(int one, int other) {
            return one != other && isPerson(one) && isPerson(other);
        }

        boolean has(int number, int what) {
            if (what >= WHOLE && what <= FORGED) {
                return isPerson(number);
            }
            return what >= NOTCH && what <= HABIT && number == 0;
        }

        static boolean allows(int what, int v) {
            return what >= 0 && what < MOST.length && v >= 0 && v <= MOST[what];
        }

        boolean comes(int whole, int cut, int proud) {
            boolean isAllowed = allows(WHOLE, whole) && allows(CUT, cut) && allows(PRIDE, proud);
            if (!isAllowed || people < 0 || people >= MOST_PEOPLE) {
                return false;
            }
            now.setWhole(people, whole);
            now.setCut(people, cut);
            pride[people] = proud;
            forged[people] = 0;
            people++;
            return true;
        }

        int told(int number, int what) {
            switch (what) {
                case WHOLE: return now.wholeOf(number);
                case CUT: return now.cutOf(number);
                case PRIDE: return number >= 0 && number < pride.length ? pride[number] : 0;
                case FORGED: return number >= 0 && number < forged.length ? forged[number] : 0;
                case NOTCH: return notch;
                case HOUR: return hour;
                case HABIT: return habit;
                default: return 0;
            }
        }

        void tell(int number, int what, int v) {
            switch (what) {
                case WHOLE:
                    now.setWhole(number, v);
                    break;
                case CUT:
                    now.setCut(number, v);
                    break;
                case PRIDE:
                    if (number >= 0 && number < pride.length) {
                        pride[number] = v;
                    }
                    break;
                case FORGED:
                    if (number >= 0 && number < forged.length) {
                        forged[number] = v;
                    }
                    break;
                case NOTCH:
                    notch = v;
                    break;
                case HOUR:
                    hour = v;
                    break;
                case HABIT:
                    habit = v;
                    break;
                default:
                    break;
            }
        }

        int forgedThatCount(int number) {
            return Math.min(told(number, FORGED), now.cutOf(number));
        }

        int farthings(Purses purses, int number) {
            return farthingsBy(purses, number, notch);
        }

        private static int farthingsBy(Purses purses, int number, int worth) {
            return WHOLE_WORTH * purses.wholeOf(number) + worth * purses.cutOf(number);
        }

        int richestBy(int worth) {
            int best = 0;
            for (int i = 1; i < people; i++) {
                if (farthingsBy(now, i, worth) > farthingsBy(now, best, worth)) {
                    best = i;
                }
            }
            return best;
        }

        int allOf(int what) {
            int all = 0;
            for (int i = 0; i < people; i++) {
                all += told(i, what);
            }
            return all;
        }

        void leads(int what) {
            if (what >= 0 && what < led.length) {
                led[what]++;
            }
        }

        int counted(int what) {
            return what >= 0 && what < led.length ? led[what] : 0;
        }

        void keepImage() {
            imageNow.copyFirst(now, people);
            System.arraycopy(led, 0, imageLed, 0, HOURS + 1);
            imagePeople = people;
            imageHour = hour;
            hasImage = true;
        }

        boolean layBack() {
            if (!hasImage) {
                return false;
            }
            now.copyFirst(imageNow, imagePeople);
            System.arraycopy(imageLed, 0, led, 0, HOURS + 1);
            hour = imageHour;
            return true;
        }
    }

    /** The tape, and the law that it became. */
    private static final class Law {
        private static final int MOST_TAPE = 120, MOST_DIGITS = 4, MOST_OPEN = 6;
        // Each byte leaves at most one word of code, and the last line one more.
        private static final int MOST_CODE = MOST_TAPE + 1;
        private static final int COMPARING = 2, LAST_LEVEL = 4;
        // A word of code is a number, or the letter of what is to be done, negated.
        private static final int LINE_ALONE = -';', LINE_IF = -'?', NOT_SO = -'!', LESS_THAN_NOTHING = -'~';

        private final int[] tape = new int[MOST_TAPE];
        private final int[] draft = new int[MOST_CODE];
        private final int[] code = new int[MOST_CODE];
        private final int[] stack = new int[MOST_CODE];
        // What the names stand for: p, b, w, c, h, n.
        private final int[] asked = new int[6];
        private int fed;
        private int at;
        private int drafted;
        private int codes;
        private int stacked;

        int fedBytes() {
            return fed;
        }

        boolean takesByte(int letter) {
            if (fed < 0 || fed >= tape.length) {
                return false;
            }
            tape[fed] = letter;
            fed++;
            return true;
        }

        /** The place of the fault, or -1. A faulty text leaves the law as it was. */
        int read() {
            at = 0;
            drafted = 0;
            boolean isText = lines();
            fed = 0;
            if (!isText) {
                return at;
            }
            for (int i = 0; i < drafted && i < MOST_CODE; i++) {
                code[i] = draft[i];
            }
            codes = drafted;
            return -1;
        }

        private int next() {
            return at >= 0 && at < fed && at < tape.length ? tape[at] : -1;
        }

        private void write(int word) {
            if (drafted >= 0 && drafted < draft.length) {
                draft[drafted] = word;
                drafted++;
            }
        }

        private boolean lines() {
            for (int i = 0; i <= MOST_TAPE; i++) {
                int end = LINE_ALONE;
                if (!joined(0, 0)) {
                    return false;
                }
                if (next() == '?') {
                    at++;
                    end = LINE_IF;
                    if (!joined(0, 0)) {
                        return false;
                    }
                }
                write(end);
                if (next() != ';') {
                    return at == fed;
                }
                at++;
            }
            return false;
        }

        /** Levels 0 to 4 are E, A, B, S, P of the document: what binds less comes first. */
        private boolean joined(int level, int open) {
            if (level > LAST_LEVEL) {
                return operand(open);
            }
            if (!joined(level + 1, open)) {
                return false;
            }
            for (int i = 0; i < MOST_TAPE && joins(level, next()); i++) {
                int letter = next();
                at++;
                if (!joined(level + 1, open)) {
                    return false;
                }
                write(-letter);
                if (level == COMPARING) {
                    return true;
                }
            }
            return true;
        }

        private static boolean joins(int level, int letter) {
            switch (letter) {
                case '|': return level == 0;
                case '&': return level == 1;
                case '<':
                case '=':
                case '>': return level == COMPARING;
                case '+':
                case '-': return level == 3;
                case '*':
                case '/':
                case '%': return level == LAST_LEVEL;
                default: return false;
            }
        }

        private boolean operand(int open) {
            int letter = next();
            if (isDigit(letter)) {
                number();
                return true;
            }
            if (nameOf(letter) >= 0) {
                at++;
                write(-letter);
                return true;
            }
            if (open >= MOST_OPEN) {
                return false;
            }
            if (letter == '(') {
                return inner(open + 1);
            }
            if (letter != '!' && letter != '-') {
                return false;
            }
            at++;
            if (!operand(open + 1)) {
                return false;
            }
            write(letter == '!' ? NOT_SO : LESS_THAN_NOTHING);
            return true;
        }

        private boolean inner(int open) {
            at++;
            if (!joined(0, open) || next() != ')') {
                return false;
            }
            at++;
            return true;
        }

        private void number() {
            int value = 0;
            for (int i = 0; i < MOST_DIGITS && isDigit(next()); i++) {
                value = value * 10 + next() - '0';
                at++;
            }
            write(value);
        }

        private static boolean isDigit(int letter) {
            return letter >= '0' && letter <= '9';
        }

        /** Where the value of a name stands among those asked for; below 0: no name. */
        private static int nameOf(int letter) {
            switch (letter) {
                case 'p': return 0;
                case 'b': return 1;
                case 'w': return 2;
                case 'c': return 3;
                case 'h': return 4;
                case 'n': return 5;
                default: return -1;
            }
        }

        int twelfths(Land land, Purses purses, int by, int to) {
            int prideTo = land.told(to, PRIDE);
            int prideBy = land.told(by, PRIDE);
            int hour = land.told(0, HOUR);
            if (codes <= 0) {
                return held(prideTo + hour / 3 - prideBy / 4);
            }
            asked[0] = prideTo;
            asked[1] = prideBy;
            asked[2] = purses.wholeOf(to);
            asked[3] = purses.cutOf(to);
            asked[4] = hour;
            asked[5] = land.told(0, NOTCH);
            return held(worked());
        }

        private static int held(int odds) {
            return Math.max(0, Math.min(TWELVE, odds));
        }

        private int worked() {
            stacked = 0;
            for (int i = 0; i < codes && i < code.length; i++) {
                int word = code[i];
                int name = nameOf(-word);
                if (word == LINE_ALONE) {
                    return pop();
                }
                if (word == LINE_IF) {
                    int second = pop();
                    if (pop() != 0) {
                        return second;
                    }
                } else if (word >= 0) {
                    push(word);
                } else if (name >= 0 && name < asked.length) {
                    push(asked[name]);
                } else if (word == NOT_SO) {
                    push(pop() == 0 ? 1 : 0);
                } else if (word == LESS_THAN_NOTHING) {
                    push(-pop());
                } else {
                    int second = pop();
                    push(both(-word, pop(), second));
                }
            }
            return 0;
        }

        private static int both(int letter, int first, int second) {
            switch (letter) {
                case '|': return first != 0 || second != 0 ? 1 : 0;
                case '&': return first != 0 && second != 0 ? 1 : 0;
                case '<': return first < second ? 1 : 0;
                case '=': return first == second ? 1 : 0;
                case '>': return first > second ? 1 : 0;
                case '+': return first + second;
                case '-': return first - second;
                case '*': return first * second;
                case '/': return second == 0 ? 0 : first / second;
                default: return second == 0 ? 0 : first % second;
            }
        }

        private void push(int v) {
            if (stacked >= 0 && stacked < stack.length) {
                stack[stacked] = v;
                stacked++;
            }
        }

        private int pop() {
            if (stacked <= 0 || stacked > stack.length) {
                return 0;
            }
            stacked--;
            return stack[stacked];
        }
    }

    /** Holds nothing, a body, or a row. */
    private static final class Shelf {
        static final int MOST_ELEMENTS = 60, LAST_SORT = 4;
        private static final int NO_SORT = -2, BODY_SORT = -1, BYTES = 0;

        private final long[] row = new long[MOST_ELEMENTS];
        private int sort = NO_SORT;
        private int size;
        private int kept;

        boolean isEmpty() {
            return sort == NO_SORT;
        }

        boolean holdsRow() {
            return sort >= BYTES;
        }

        boolean holdsBytes() {
            return sort == BYTES;
        }

        boolean isLike(Shelf other) {
            return holdsRow() && sort == other.sort;
        }

        /** Why it is not the row that is wanted. */
        int refusal() {
            return isEmpty() ? NOTHING : UNLIKE;
        }

        void keepBody(int number) {
            sort = number < 0 ? NO_SORT : BODY_SORT;
            kept = number;
            size = 0;
        }

        int bodyKept() {
            return kept;
        }

        void becomeRow(int newSort, int n) {
            sort = newSort;
            size = n;
            for (int i = 0; i < n && i < row.length; i++) {
                row[i] = 0;
            }
        }

        int length() {
            return size;
        }

        long longAt(int i) {
            return i >= 0 && i < size && i < row.length ? row[i] : 0;
        }

        int byteAt(int i) {
            return (int) longAt(i);
        }

        boolean putIn(int i, long v) {
            if (i < 0 || i >= size || i >= row.length) {
                return false;
            }
            row[i] = lowest(v);
            return true;
        }

        private long lowest(long v) {
            switch (sort) {
                case BYTES: return (byte) v;
                case 1: return (short) v;
                case 2: return (int) v;
                case 3: return v;
                default: return v != 0 ? 1 : 0;
            }
        }

        boolean moveTo(int i, Shelf other, int j, int n) {
            if (n < 0 || i < 0 || j < 0 || i > size - n || j > other.size - n) {
                return false;
            }
            if (i > row.length - n || j > other.row.length - n) {
                return false;
            }
            System.arraycopy(row, i, other.row, j, n);
            return true;
        }
    }

    /** Evenings in thought: of told offers, or of drawn ones. */
    private static final class Evening {
        private final Land land;
        private final Law law;
        final Purses purses = new Purses();
        private final int[] by = new int[MOST_OFFERS];
        private final int[] to = new int[MOST_OFFERS];
        private final int[] kind = new int[MOST_OFFERS];
        private int length;
        private int refused;
        private int firstNot;
        private int who;
        private int drawnWhole;

        Evening(Land land, Law law) {
            this.land = land;
            this.law = law;
        }

        void read(Shelf row) {
            length = 0;
            while (length < MOST_OFFERS && length < row.length()) {
                int told = row.byteAt(length);
                if (told < 0 || !land.areTwo(told / 20, told % 20 / 2)) {
                    return;
                }
                by[length] = told / 20;
                to[length] = told % 20 / 2;
                kind[length] = told % 2;
                length++;
            }
        }

        int length() {
            return length;
        }

        int byAt(int i) {
            return i >= 0 && i < by.length ? by[i] : 0;
        }

        int toAt(int i) {
            return i >= 0 && i < to.length ? to[i] : 0;
        }

        boolean isWholeAt(int i) {
            return i >= 0 && i < kind.length && kind[i] == 0;
        }

        void play(int n) {
            purses.copyFirst(land.now, land.howMany());
            refused = 0;
            firstNot = NOT;
            who = 0;
            for (int i = 0; i < n && i < length; i++) {
                if (!isOffered(byAt(i), toAt(i), isWholeAt(i)) && firstNot == NOT) {
                    firstNot = i;
                }
            }
        }

        private boolean isOffered(int giver, int taker, boolean isWhole) {
            if (!isWhole) {
                boolean canBe = purses.mayOfferCut(giver, taker);
                if (canBe) {
                    purses.giveCut(giver, taker);
                }
                return canBe;
            }
            if (!purses.mayOfferWhole(giver, taker)) {
                return false;
            }
            answer(giver, taker, law.twelfths(land, purses, giver, taker) >= land.told(0, HABIT));
            return true;
        }

        private void answer(int giver, int taker, boolean saysNo) {
            if (saysNo) {
                purses.refuse(giver);
                refused++;
                who |= 1 << taker;
            } else {
                purses.giveWhole(giver, taker);
            }
        }

        int refusals() {
            return refused;
        }

        int firstThatCannotBe() {
            return firstNot;
        }

        int whoRefused() {
            return who;
        }

        void draw(int seed, int evenings, int offers) {
            int z = seed;
            refused = 0;
            drawnWhole = 0;
            int people = land.howMany();
            for (int i = 0; i < evenings && people > 0; i++) {
                purses.copyFirst(land.now, people);
                for (int j = 0; j < offers; j++) {
                    z = z * 1103515245 + 12345;
                    drawOne(z, people);
                }
                for (int j = 0; j < people; j++) {
                    drawnWhole += purses.wholeOf(j);
                }
            }
        }

        private void drawOne(int z, int people) {
            if (people < 1) {
                return;
            }
            int giver = (z >>> 8) % people;
            int taker = (z >>> 12) % people;
            if (giver != taker && purses.mayOfferWhole(giver, taker)) {
                answer(giver, taker, (z >>> 20) % TWELVE < law.twelfths(land, purses, giver, taker));
            }
        }

        int drawnWhole() {
            return drawnWhole;
        }
    }

    /** Payings of a told round. */
    private static final class Payings {
        private static final int MOST_PAYINGS = 10;

        private final Land land;
        private final Law law;
        private final Purses purses = new Purses();
        private final int[] by = new int[MOST_PAYINGS];
        private final int[] to = new int[MOST_PAYINGS];
        private int length;
        private int best;
        private int bestKinds;
        private boolean isClean;
        private boolean isFound;

        Payings(Land land, Law law) {
            this.land = land;
            this.law = law;
        }

        void read(Shelf row) {
            length = 0;
            while (length < MOST_PAYINGS && 2 * length + 1 < row.length()) {
                int payer = row.byteAt(2 * length);
                int taker = row.byteAt(2 * length + 1);
                if (!land.areTwo(payer, taker)) {
                    return;
                }
                by[length] = payer;
                to[length] = taker;
                length++;
            }
        }

        int length() {
            return length;
        }

        /** The fewest refused, or the most farthings of the first payer; false: there is no way. */
        boolean find(boolean clean) {
            purses.copyFirst(land.now, land.howMany());
            isClean = clean;
            isFound = false;
            best = 0;
            bestKinds = 0;
            search(0, 0, 0);
            return isFound;
        }

        int found() {
            return best;
        }

        int kindAt(int k) {
            return k >= 0 && k < MOST_PAYINGS ? (bestKinds >> k) & 1 : 0;
        }

        // Whole coins are tried first, so that of like ways the first by numbers is found first.
        private void search(int place, int refused, int kinds) {
            if (place < 0 || place >= length || place >= MOST_PAYINGS) {
                weigh(refused, kinds);
                return;
            }
            if (!isClean && isFound && refused >= best) {
                return;
            }
            int payer = by[place];
            int taker = to[place];
            if (purses.mayOfferWhole(payer, taker)) {
                searchWhole(place, refused, kinds);
            }
            if (purses.mayOfferCut(payer, taker)) {
                purses.giveCut(payer, taker);
                search(place + 1, refused, kinds | (1 << place));
                purses.giveCut(taker, payer);
            }
        }

        private void searchWhole(int place, int refused, int kinds) {
            if (place < 0 || place >= MOST_PAYINGS) {
                return;
            }
            int payer = by[place];
            int taker = to[place];
            if (law.twelfths(land, purses, payer, taker) < land.told(0, HABIT)) {
                purses.giveWhole(payer, taker);
                search(place + 1, refused, kinds);
                purses.giveWhole(taker, payer);
            } else if (purses.cutOf(taker) < MOST_COINS) {
                purses.refuse(payer);
                purses.giveCut(payer, taker);
                search(place + 1, refused + 1, kinds);
                purses.giveCut(taker, payer);
                purses.takeBackRefusal(payer);
            }
        }

        private void weigh(int refused, int kinds) {
            int value = isClean ? land.farthings(purses, by[0]) : refused;
            boolean isBetter = isClean ? value > best : value < best;
            if (!isFound || isBetter) {
                isFound = true;
                best = value;
                bestKinds = kinds;
            }
        }
    }

    /** How likely something is: a fraction, above and below the line. */
    private static final class Chances {
        static final int MOST_PAID = 8;
        // What all counts of pairs (1 to 30) go into, so that stays can add over them.
        private static final long ALL_PAIRS = 2329089562800L;

        private final Land land;
        private final Law law;
        private final Purses purses = new Purses();
        // How heavy each number of refused ones is, in all and where more may be offered still.
        private final long[] weights = new long[MOST_PAID + 1];
        private final long[] open = new long[MOST_PAID + 1];
        private long above;
        private long below = 1;
        private int pairs;
        private int taking;

        Chances(Land land, Law law) {
            this.land = land;
            this.law = law;
        }

        long part(int which) {
            return which == 0 ? above : below;
        }

        private void set(long newAbove, long newBelow) {
            long shared = Math.max(1, sharedBy(newAbove, newBelow));
            above = newAbove / shared;
            below = newBelow / shared;
        }

        private static long sharedBy(long a, long b) {
            // Longs take less than a hundred steps.
            for (int i = 0; i < 200 && b != 0; i++) {
                long rest = a % b;
                a = b;
                b = rest;
            }
            return a;
        }

        void justSoMany(int by, int to, int n, int r) {
            weighPayings(by, to, n);
            set(r >= 0 && r < weights.length ? weights[r] : 0, twelveBy(n));
        }

        void meanRefused(int by, int to, int n) {
            weighPayings(by, to, n);
            long sum = 0;
            for (int j = 1; j < weights.length; j++) {
                sum += j * weights[j];
            }
            set(sum, twelveBy(n));
        }

        private static long twelveBy(int n) {
            long power = 1;
            for (int i = 0; i < n && i < MOST_PAID; i++) {
                power *= TWELVE;
            }
            return power;
        }

        private void weighPayings(int by, int to, int n) {
            purses.copyFirst(land.now, land.howMany());
            for (int j = 0; j < weights.length && j < open.length; j++) {
                weights[j] = 0;
                open[j] = j == 0 ? 1 : 0;
            }
            for (int paid = 0; paid < n && paid < MOST_PAID; paid++) {
                // From many refused to few, so that none is offered the same coin twice.
                for (int refused = paid; refused >= 0; refused--) {
                    offerNext(by, to, paid, refused, n - paid);
                }
            }
            for (int j = 0; j < weights.length && j < open.length; j++) {
                weights[j] += open[j];
            }
        }

        private void offerNext(int by, int to, int paid, int refused, int left) {
            if (refused < 0 || refused + 1 >= open.length || refused >= weights.length) {
                return;
            }
            purses.setWhole(by, land.told(by, WHOLE) - paid);
            purses.setCut(by, land.told(by, CUT) + refused);
            purses.setWhole(to, land.told(to, WHOLE) + paid - refused);
            if (!purses.mayOfferWhole(by, to)) {
                // What can't be once can't be for the rest, since nothing changes.
                weights[refused] += open[refused] * twelveBy(left);
                open[refused] = 0;
                return;
            }
            int odds = law.twelfths(land, purses, by, to);
            open[refused + 1] += open[refused] * odds;
            open[refused] *= TWELVE - odds;
        }

        void allStayWhole(int n) {
            purses.copyFirst(land.now, land.howMany());
            tally();
            if (n <= 0 || pairs == 0) {
                set(1, 1);
            } else if (n == 1) {
                set(taking, (long) TWELVE * pairs);
            } else {
                long allPairs = (long) TWELVE * TWELVE * pairs * ALL_PAIRS;
                set(takenTwice(), allPairs);
            }
        }

        /** Counts who may offer a whole coin to whom, and in how many of twelve it is taken. */
        private void tally() {
            pairs = 0;
            taking = 0;
            int people = land.howMany();
            for (int i = 0; i < people; i++) {
                for (int j = 0; j < people; j++) {
                    if (i != j && purses.mayOfferWhole(i, j)) {
                        pairs++;
                        taking += TWELVE - law.twelfths(land, purses, i, j);
                    }
                }
            }
        }

        private long takenTwice() {
            long sum = 0;
            int people = land.howMany();
            for (int i = 0; i < people; i++) {
                for (int j = 0; j < people; j++) {
                    if (i != j && purses.mayOfferWhole(i, j)) {
                        long first = TWELVE - law.twelfths(land, purses, i, j);
                        purses.giveWhole(i, j);
                        tally();
                        purses.giveWhole(j, i);
                        sum += first * (pairs > 0 ? taking * (ALL_PAIRS / pairs) : TWELVE * ALL_PAIRS);
                    }
                }
            }
            return sum;
        }

        /** How likely so many forged ones or more are among t that are looked at. */
        void forgedFound(int one, int t, int atLeast) {
            int cut = land.told(one, CUT);
            int forged = land.forgedThatCount(one);
            int looked = Math.min(t, cut);
            long sum = 0;
            for (int j = atLeast; j <= looked && j <= MOST_COINS; j++) {
                sum += choices(forged, j) * choices(cut - forged, looked - j);
            }
            set(sum, choices(cut, looked));
        }

        private static long choices(int all, int some) {
            if (some < 0 || some > all) {
                return 0;
            }
            long ways = 1;
            for (int i = 0; i < some && i < MOST_COINS; i++) {
                ways = ways * (all - i) / (i + 1);
            }
            return ways;
        }
    }

    /** What has been mended, to be undone and done again. */
    private static final class Changes {
        private static final int MOST_KEPT = 40;

        private final int[] number = new int[MOST_KEPT];
        private final int[] what = new int[MOST_KEPT];
        private final int[] was = new int[MOST_KEPT];
        private final int[] became = new int[MOST_KEPT];
        private int done;
        private int undone;

        void note(int newNumber, int newWhat, int newWas, int newBecame) {
            if (done >= MOST_KEPT) {
                forgetOldest();
            }
            if (done >= 0 && done < MOST_KEPT) {
                number[done] = newNumber;
                what[done] = newWhat;
                was[done] = newWas;
                became[done] = newBecame;
                done++;
            }
            undone = 0;
        }

        private void forgetOldest() {
            done = MOST_KEPT - 1;
            System.arraycopy(number, 1, number, 0, MOST_KEPT - 1);
            System.arraycopy(what, 1, what, 0, MOST_KEPT - 1);
            System.arraycopy(was, 1, was, 0, MOST_KEPT - 1);
            System.arraycopy(became, 1, became, 0, MOST_KEPT - 1);
        }

        boolean undoOn(Land land) {
            int latest = done - 1;
            if (latest < 0 || latest >= MOST_KEPT) {
                return false;
            }
            land.tell(number[latest], what[latest], was[latest]);
            done--;
            undone++;
            return true;
        }

        boolean redoOn(Land land) {
            if (undone <= 0 || done < 0 || done >= MOST_KEPT) {
                return false;
            }
            land.tell(number[done], what[done], became[done]);
            done++;
            undone--;
            return true;
        }

        int mayBeUndone() {
            return done;
        }

        int mayBeRedone() {
            return undone;
        }
    }

    /** Bodies of kinds, and their acts. */
    private static final class Bodies {
        private static final int MOST_BODIES = 50, MOST_TRACED = 24, KINDS = 8, ACTS = 4;
        // Far more than any act needs: no body runs into itself.
        private static final int MOST_DEEP = 40;
        private static final int OFFERS = 0, NOTCHES = 1, TAKES = 2, TELLS = 3;
        private static final int[] ABOVE = {-1, 0, 0, 2, 1, 3, 0, 6};
        // The numbers of a kind's own bodies, by acts; 0: it has none.
        private static final int[] OWN = {
            1, 10, 11, 2,
            20, 0, 0, 0,
            0, 30, 0, 0,
            0, 41, 40, 0,
            0, 0, 0, 50,
            0, 0, 60, 61,
            70, 0, 0, 0,
            81, 80, 0, 0,
        };

        private final int[] kinds = new int[MOST_BODIES];
        private final int[] trace = new int[MOST_TRACED];
        private int kept;
        private int ran;
        private int self;
        private int selfKind;

        static boolean isKind(int kind) {
            return kind >= 0 && kind < KINDS;
        }

        static boolean isUnder(int kind, int top) {
            int at = kind;
            for (int i = 0; i < KINDS && at >= 0 && at < ABOVE.length; i++) {
                if (at == top) {
                    return true;
                }
                at = ABOVE[at];
            }
            return false;
        }

        int howMany() {
            return kept;
        }

        int ranLately() {
            return ran;
        }

        int kindOf(int number) {
            return number >= 0 && number < kept && number < kinds.length ? kinds[number] : BAD;
        }

        boolean comes(int kind) {
            if (kept < 0 || kept >= kinds.length) {
                return false;
            }
            kinds[kept] = kind;
            kept++;
            return true;
        }

        int traced(int i) {
            return i >= 0 && i < ran && i < trace.length ? trace[i] : BAD;
        }

        int acts(int number, int act, int x) {
            ran = 0;
            if (number < 0 || number >= kept || act < 0 || act >= ACTS) {
                return 0;
            }
            self = number;
            selfKind = kindOf(number);
            return from(selfKind, act, x, 0);
        }

        private void begins(int number) {
            if (ran >= 0 && ran < trace.length) {
                trace[ran] = number;
            }
            ran++;
        }

        private static int ownBody(int kind, int act) {
            int place = kind * ACTS + act;
            return kind >= 0 && place >= 0 && place < OWN.length ? OWN[place] : 0;
        }

        private static int kindAbove(int kind) {
            return kind >= 0 && kind < ABOVE.length ? ABOVE[kind] : -1;
        }

        /** The act by the body of this kind, or of the next kind above that has one. */
        private int from(int kind, int act, int x, int deep) {
            int at = kind;
            for (int i = 0; i < KINDS && at >= 0 && ownBody(at, act) == 0; i++) {
                at = kindAbove(at);
            }
            if (at < 0 || deep >= MOST_DEEP) {
                return 0;
            }
            int number = ownBody(at, act);
            begins(number);
            return number < 20 ? runTop(number, x, deep + 1) : runOver(number, kindAbove(at), x, deep + 1);
        }

        /** Bodies with nothing above them. */
        private int runTop(int number, int x, int deep) {
            switch (number) {
                case 1: return x + self;
                case 2: return from(selfKind, NOTCHES, x, deep) - from(selfKind, TAKES, 1, deep);
                case 10: return from(selfKind, OFFERS, x, deep) * 2;
                default: return x ^ self;
            }
        }

        /** Bodies that ask the kind above. */
        private int runOver(int number, int above, int x, int deep) {
            switch (number) {
                case 20: return from(above, OFFERS, x, deep) + 3;
                case 30: return -from(above, NOTCHES, x, deep);
                case 40: return from(above, TAKES, x, deep) * 3;
                case 41: return from(above, NOTCHES, x + 1, deep);
                case 50: return from(above, TELLS, x, deep) ^ 5;
                case 60: return from(above, TAKES, x, deep) - from(selfKind, OFFERS, 2, deep);
                case 61: return from(above, TELLS, x, deep) + 1;
                case 70: return from(above, OFFERS, x, deep) * 2;
                case 80: return from(above, NOTCHES, x, deep) + from(selfKind, TAKES, 2, deep);
                case 81: return from(above, OFFERS, x, deep) - 1;
                default: return 0;
            }
        }
    }

    /** Purses on the way through an evening, each with all ways that led to it. */
    private static final class Level {
        final long[] keys = new long[Ways.MOST_STATES];
        final int[] ways = new int[Ways.MOST_STATES];
        final int[] fewest = new int[Ways.MOST_STATES];
        final int[] always = new int[Ways.MOST_STATES];
        int size;
    }

    /**
     * All ways of answers that lead to told purses. Ways that come to the same purses
     * go on as one, and purses that no longer matter are forgotten, since 20 offers
     * alone would be a million ways.
     */
    private static final class Ways {
        // Behind 13 offers there are at most 2 to the 13th purses; and of those ahead of
        // at most 6 offers, 2 to the 12th that still matter unlike: each of the 6 leaves
        // two numbers open, the refused one's and the taker's.
        static final int MOST_STATES = 8192;
        private static final int HEADS = 1024;
        // Numbers 0 to 5 are whole coins, 6 to 11 notched ones, five bits for each.
        private static final int NUMBERS = 2 * MOST_PEOPLE, BITS = 5, MASK = 31, ANY = 31;
        private static final int REFUSED_ONE = 1 << MOST_OFFERS;
        private static final int NEVER_LOW = 99, NEVER_HIGH = -99;

        private final Land land;
        private final Evening evening;
        // By levels and numbers: from where the told end can be come to, and from where it must be.
        private final int[][] low = new int[MOST_OFFERS + 1][NUMBERS];
        private final int[][] high = new int[MOST_OFFERS + 1][NUMBERS];
        private final int[][] safeLow = new int[MOST_OFFERS + 1][NUMBERS];
        private final int[][] safeHigh = new int[MOST_OFFERS + 1][NUMBERS];
        private final int[] heads = new int[HEADS];
        private final int[] chained = new int[MOST_STATES];
        private Level from = new Level();
        private Level onto = new Level();

        Ways(Land land, Evening evening) {
            this.land = land;
            this.evening = evening;
        }

        int howMany() {
            return from.size > 0 ? from.ways[0] : 0;
        }

        int fewest() {
            return from.size > 0 ? from.fewest[0] >> MOST_OFFERS : 0;
        }

        int fewestBits() {
            return from.size > 0 ? from.fewest[0] & (REFUSED_ONE - 1) : 0;
        }

        int certain() {
            return from.size > 0 ? from.always[0] : 0;
        }

        void find(Shelf told) {
            from.size = 0;
            int length = Math.min(evening.length(), MOST_OFFERS);
            if (!endAt(length, told)) {
                return;
            }
            for (int place = length - 1; place >= 0; place--) {
                comeBackOver(place);
            }
            clear();
            reach(startKey(), 1, 0, 0);
            turn();
            for (int place = 0; place < length; place++) {
                clear();
                for (int i = 0; i < from.size && i < MOST_STATES; i++) {
                    goOn(i, place);
                }
                turn();
            }
        }

        private void turn() {
            Level before = from;
            from = onto;
            onto = before;
        }

        private void clear() {
            onto.size = 0;
            for (int i = 0; i < HEADS; i++) {
                heads[i] = 0;
            }
        }

        /** False: something is told that nobody can have. */
        private boolean endAt(int level, Shelf told) {
            for (int number = 0; number < NUMBERS; number++) {
                int person = number % MOST_PEOPLE;
                int place = 2 * person + number / MOST_PEOPLE;
                boolean isTold = land.isPerson(person) && place < told.length();
                int least = isTold ? told.byteAt(place) : 0;
                int most = isTold ? told.byteAt(place) : MOST_COINS;
                if (least < 0 || most > MOST_COINS) {
                    return false;
                }
                allow(level, number, least, most);
            }
            return true;
        }

        private void allow(int level, int number, int least, int most) {
            if (level >= 0 && level <= MOST_OFFERS && number >= 0 && number < NUMBERS) {
                low[level][number] = least;
                high[level][number] = most;
                safeLow[level][number] = least;
                safeHigh[level][number] = most;
            }
        }

        private void comeBackOver(int place) {
            if (place < 0 || place >= MOST_OFFERS) {
                return;
            }
            System.arraycopy(low[place + 1], 0, low[place], 0, NUMBERS);
            System.arraycopy(high[place + 1], 0, high[place], 0, NUMBERS);
            System.arraycopy(safeLow[place + 1], 0, safeLow[place], 0, NUMBERS);
            System.arraycopy(safeHigh[place + 1], 0, safeHigh[place], 0, NUMBERS);
            int giver = evening.byAt(place);
            int taker = evening.toAt(place);
            if (evening.isWholeAt(place)) {
                moveBoth(place, giver, 1, MOST_COINS);
                widen(place, taker);
                widen(place, MOST_PEOPLE + giver);
            } else {
                moveBoth(place, MOST_PEOPLE + giver, 1, MOST_COINS);
                moveBoth(place, MOST_PEOPLE + taker, -1, MOST_COINS - 1);
            }
        }

        /** A number that has lost or got one behind the offer. */
        private void moveBoth(int level, int number, int by, int most) {
            if (level >= 0 && level <= MOST_OFFERS) {
                bound(low[level], high[level], number, by, by, most);
                bound(safeLow[level], safeHigh[level], number, by, by, most);
            }
        }

        /** A number that may have got one, and must have had room for it. */
        private void widen(int level, int number) {
            if (level >= 0 && level <= MOST_OFFERS) {
                bound(low[level], high[level], number, -1, 0, MOST_COINS - 1);
                bound(safeLow[level], safeHigh[level], number, 0, -1, MOST_COINS - 1);
            }
        }

        private static void bound(int[] lows, int[] highs, int number, int byLow, int byHigh, int most) {
            if (number < 0 || number >= lows.length || number >= highs.length) {
                return;
            }
            int least = Math.max(0, lows[number] + byLow);
            int greatest = Math.min(most, highs[number] + byHigh);
            // What is empty once stays so: a low bound that sinks must not open it again.
            lows[number] = least > greatest ? NEVER_LOW : least;
            highs[number] = least > greatest ? NEVER_HIGH : greatest;
        }

        private long startKey() {
            long key = 0;
            for (int i = 0; i < MOST_PEOPLE; i++) {
                boolean isPerson = land.isPerson(i);
                key = settle(0, key, i, isPerson ? land.told(i, WHOLE) : 0);
                key = settle(0, key, MOST_PEOPLE + i, isPerson ? land.told(i, CUT) : 0);
            }
            return key;
        }

        /** The key with this number; below 0, if the told end can't be come to with it. */
        private long settle(int level, long key, int number, int v) {
            if (key < 0 || level < 0 || level > MOST_OFFERS || number < 0 || number >= NUMBERS) {
                return -1;
            }
            if (v < low[level][number] || v > high[level][number]) {
                return -1;
            }
            boolean isSafe = v >= safeLow[level][number] && v <= safeHigh[level][number];
            long bits = isSafe ? ANY : v;
            int place = BITS * number;
            return (key & ~((long) MASK << place)) | (bits << place);
        }

        private long moved(int level, long key, int number, int by) {
            if (key < 0 || number < 0 || number >= NUMBERS) {
                return -1;
            }
            int v = (int) (key >> (BITS * number)) & MASK;
            return v == ANY ? key : settle(level, key, number, v + by);
        }

        private void goOn(int i, int place) {
            if (i < 0 || i >= MOST_STATES || place < 0 || place >= MOST_OFFERS) {
                return;
            }
            int level = place + 1;
            int giver = evening.byAt(place);
            int taker = evening.toAt(place);
            int notchedGiver = MOST_PEOPLE + giver;
            int notchedTaker = MOST_PEOPLE + taker;
            long key = from.keys[i];
            if (!evening.isWholeAt(place)) {
                key = moved(level, moved(level, key, notchedGiver, -1), notchedTaker, 1);
                reach(key, from.ways[i], from.fewest[i], from.always[i]);
                return;
            }
            key = moved(level, key, giver, -1);
            long yes = moved(level, moved(level, key, taker, 1), notchedGiver, 0);
            reach(yes, from.ways[i], from.fewest[i], from.always[i]);
            long no = moved(level, moved(level, key, taker, 0), notchedGiver, 1);
            int bit = 1 << place;
            reach(no, from.ways[i], from.fewest[i] + REFUSED_ONE + bit, from.always[i] | bit);
        }

        private void reach(long key, int ways, int fewest, int always) {
            int head = headOf(key);
            if (key < 0 || head < 0 || head >= HEADS) {
                return;
            }
            int at = heads[head] - 1;
            for (int i = 0; i < MOST_STATES && at >= 0 && at < onto.size && at < MOST_STATES; i++) {
                if (onto.keys[at] == key) {
                    onto.ways[at] += ways;
                    onto.fewest[at] = Math.min(onto.fewest[at], fewest);
                    onto.always[at] &= always;
                    return;
                }
                at = chained[at] - 1;
            }
            int last = onto.size;
            if (last < 0 || last >= MOST_STATES) {
                return;
            }
            onto.keys[last] = key;
            onto.ways[last] = ways;
            onto.fewest[last] = fewest;
            onto.always[last] = always;
            chained[last] = heads[head];
            onto.size = last + 1;
            heads[head] = onto.size;
        }

        private static int headOf(long key) {
            long mixed = (key ^ (key >>> 32)) * 6364136223846793005L;
            return (int) (mixed >>> 40) & (HEADS - 1);
        }
    }
}
