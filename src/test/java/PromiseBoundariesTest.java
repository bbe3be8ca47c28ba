import java.io.IOException;

/** For each sentence of the promises that names a boundary case a test of its own. */
public final class PromiseBoundariesTest extends Sentences {
    private static final int[] NOBODY = {LEAST, -1, 2, 6, MOST};

    /** Two people: 5 and 3 whole coins, 2 and 4 notched ones, pride 3 and 8, one forged. */
    private static RefusedOnce two() {
        return tell(tell(tell(land(5, 3), 1, 2, 4), 2, 3, 8), 3, 0, 1);
    }

    private static void nobody() {
        says("Promise 1", "A land, nobody.");
        RefusedOnce x = new RefusedOnce();
        for (int what = 0; what <= 6; what++) due("count(" + what + ")", x.count(what), 0);
        for (int what = 0; what <= 3; what++) due("led(" + what + ")", x.led(what), 0);
        for (int what = 0; what <= 8; what++) {
            int want = what == 4 ? 3 : what == 5 ? 0 : what == 6 ? 6 : BAD;
            due("of(0, " + what + ")", x.of(0, what), want);
        }
        for (int shelf = 0; shelf < 6; shelf++) due("on " + shelf, x.taken(shelf, 0), NOTHING);
        due("undo()", x.undo(), STATE);
        due("redo()", x.redo(), STATE);
        due("back()", x.back(), STATE);
        due("trace(0)", x.trace(0), BAD);
        due("act(0, 0, 0)", x.act(0, 0, 0), 0);
        due("odds(1)", x.odds(1), BAD);
        due("dowry(0, 0)", x.dowry(0, 0), 0);
        due("offer(1, 0)", x.offer(1, 0), BAD);
        due("mint(0)", x.mint(0), BAD);
        due("the first one is 0", x.person(0), 0);
    }

    private static void aPersonsNumber() {
        says("Promise 2", "One with so many WHOLE coins: its number.");
        RefusedOnce x = new RefusedOnce();
        int[] whole = {0, 20, 1, 19, 0, 20};
        for (int i = 0; i < 6; i++) due("person(" + whole[i] + ")", x.person(whole[i]), i);
        for (int i = 0; i < 6; i++) {
            due("WHOLE", x.of(i, 0), whole[i]);
            due("CUT", x.of(i, 1), 0);
            due("PRIDE", x.of(i, 2), 3);
            due("FORGED", x.of(i, 3), 0);
        }
    }

    private static void personBad() {
        says("Promise 2", "BAD, FULL: 6.");
        RefusedOnce x = new RefusedOnce();
        for (int i = 0; i < 6; i++) {
            for (int whole : new int[] {LEAST, -1, 21, MOST}) due("person(" + whole + ")", x.person(whole), BAD);
            due("how many", x.count(0), i);
            x.person(i);
        }
        for (int whole : new int[] {0, 1, 20}) due("a seventh with " + whole, x.person(whole), FULL);
        for (int whole : new int[] {LEAST, -1, 21, MOST}) due("a seventh with " + whole, x.person(whole), BAD);
        due("how many", x.count(0), 6);
    }

    private static void peopleOneToSix() {
        says("Promise 3", "PEOPLE FROM A ROW on a SHELF, from place i on, n (1 .. 6) of them: how many came");
        for (int n = 1; n <= 6; n++) {
            RefusedOnce x = new RefusedOnce();
            x.row(5, 0, 60);
            due("n " + n, x.people(5, 0, n), n);
            due("how many", x.count(0), n);
        }
        RefusedOnce x = new RefusedOnce();
        x.row(0, 0, 60);
        for (int n : new int[] {LEAST, -1, 0, 7, MOST}) due("n " + n, x.people(0, 0, n), BAD);
        for (int n : new int[] {LEAST, -1, 0, 7, MOST}) due("of nothing, n " + n, x.people(1, 0, n), BAD);
        due("nobody came", x.count(0), 0);
    }

    private static void peopleFromBelow() {
        says("Promise 3", "(0 with i below 0)");
        RefusedOnce x = new RefusedOnce();
        x.row(0, 0, 60);
        for (int i : new int[] {LEAST, LEAST + 1, LEAST + 2, -3, -2, -1}) due("i " + i, x.people(0, i, 6), 0);
        for (int i : new int[] {LEAST, -1}) due("of nothing, i " + i, x.people(1, i, 6), 0);
        for (int i : new int[] {LEAST, -1}) due("on no shelf, i " + i, x.people(6, i, 6), BAD);
        due("nobody came", x.count(0), 0);
        due("i 0", x.people(0, 0, 1), 1);
    }

    private static void peopleOfNoRow() {
        says("Promise 3", "BAD, -12 (no ROW of bytes; a SHELF that holds nothing is missing).");
        RefusedOnce x = new RefusedOnce();
        x.body(0);
        x.keep(0, 0);
        due("a BODY", x.people(0, 0, 1), UNLIKE);
        for (int sort = 1; sort <= 4; sort++) {
            x.row(0, sort, 3);
            due("a ROW of sort " + sort, x.people(0, 0, 1), UNLIKE);
        }
        due("a SHELF that holds nothing", x.people(1, 0, 1), 0);
        x.keep(0, -1);
        due("a SHELF that holds nothing again", x.people(0, 0, 1), 0);
        x.row(0, 0, 0);
        due("an empty ROW", x.people(0, 0, 1), 0);
        for (int shelf : NO_SHELF) due("on " + shelf, x.people(shelf, 0, 1), BAD);
    }

    private static void mendOfNumber0() {
        says("Promise 4", "NOTCH (4), HOUR (5), HABIT (6; number 0 for these, another: BAD) becomes v: what it was. BAD.");
        RefusedOnce x = new RefusedOnce();
        for (int what = 0; what <= 3; what++) due("of nobody, what " + what, x.mend(0, what, 1), BAD);
        due("NOTCH without PEOPLE", x.mend(0, 4, 2), 3);
        due("HOUR without PEOPLE", x.mend(0, 5, 9), 0);
        due("HABIT without PEOPLE", x.mend(0, 6, 11), 6);
        due("NOTCH", x.mend(0, 4, 2), 2);
        due("HOUR", x.mend(0, 5, 9), 9);
        due("HABIT", x.mend(0, 6, 11), 11);
        x.person(1);
        x.person(2);
        for (int number : new int[] {LEAST, -1, 1, 5, 6, MOST}) {
            for (int what = 4; what <= 6; what++) due("number " + number + ", what " + what, x.mend(number, what, 1), BAD);
        }
        for (int number : NOBODY) {
            for (int what = 0; what <= 3; what++) due("number " + number + ", what " + what, x.mend(number, what, 1), BAD);
        }
        for (int what : new int[] {LEAST, -1, 7, 8, MOST}) due("what " + what, x.mend(0, what, 1), BAD);
        due("WHOLE of 1", x.mend(1, 0, 9), 2);
        due("WHOLE of 0 is as it was", x.of(0, 0), 1);
    }

    private static void ofAsOfMend() {
        says("Promise 5", "As of mend() (0 to 6); of one 7 farthings, 8 how many FORGED ones count. BAD.");
        RefusedOnce x = two();
        int[][] want = {{5, 2, 3, 0, 3, 0, 6, 26, 0}, {3, 4, 8, 1, BAD, BAD, BAD, 24, 1}};
        for (int one = 0; one < 2; one++) {
            for (int what = 0; what <= 8; what++) due("of(" + one + ", " + what + ")", x.of(one, what), want[one][what]);
            for (int what : new int[] {LEAST, -1, 9, MOST}) due("of(" + one + ", " + what + ")", x.of(one, what), BAD);
        }
        for (int number : NOBODY) {
            for (int what = -1; what <= 9; what++) due("of(" + number + ", " + what + ")", x.of(number, what), BAD);
        }
        due("farthings of nobody", new RefusedOnce().of(0, 7), BAD);
        due("FORGED ones of nobody", new RefusedOnce().of(0, 8), BAD);
        due("most farthings", tell(tell(land(20), 1, 20), 4, 4).of(0, 7), 160);
        due("no farthings", land(0).of(0, 7), 0);
    }

    private static void aByteComes() {
        says("Promise 6", "A byte (0 .. 255) comes to THE TAPE: how many it has.");
        RefusedOnce x = new RefusedOnce();
        due("0", x.feed(0), 1);
        due("255", x.feed(255), 2);
        for (int letter : new int[] {LEAST, -1, 256, MOST}) due("" + letter, x.feed(letter), BAD);
        due("how many", x.count(3), 2);
        due("the fault is at the first", x.law(), -100);
        x.feed('1');
        x.feed(255);
        due("the fault is at the second", x.law(), -101);
    }

    private static void theTapeIsFull() {
        says("Promise 6", "BAD, FULL (120).");
        RefusedOnce x = new RefusedOnce();
        for (int i = 1; i <= 120; i++) due("feed", x.feed(';'), i);
        for (int i = 0; i < 3; i++) due("FULL", x.feed(';'), FULL);
        due("BAD ahead of it", x.feed(-1), BAD);
        due("how many", x.count(3), 120);
        x.law();
        due("empty again", x.feed(';'), 1);
    }

    private static void aFaultyLaw() {
        says("Promise 7", "THE TAPE becomes THE LAW: 1; -100 less its FAULT;");
        RefusedOnce x = land(5, 5);
        due("nothing on it", x.law(), -100);
        due("no law yet", x.odds(1), 3);
        due("a law", law(x, "7"), 1);
        due("by it", x.odds(1), 7);
        due("another", law(x, "8"), 1);
        due("by it", x.odds(1), 8);
        String[] faulty = {"", "9+", "9x", "9;", "(((((((9", "9?"};
        int[] faults = {0, 2, 1, 2, 6, 2};
        for (int i = 0; i < faulty.length; i++) {
            due("law of " + faulty[i], law(x, faulty[i]), -100 - faults[i]);
            due("THE LAW is as it was", x.odds(1), 8);
        }
        due("a law that gives 0", law(x, "0"), 1);
        due("is one, too", x.odds(1), 0);
    }

    private static void theTapeIsEmptyThen() {
        says("Promise 7", "THE TAPE is empty then.");
        RefusedOnce x = land(5, 5);
        due("a law", law(x, "12-5"), 1);
        due("empty", x.count(3), 0);
        due("a faulty one", law(x, "12-"), -103);
        due("empty", x.count(3), 0);
        due("so it has a fault at 0", x.law(), -100);
        due("nothing of it is left", law(x, "6"), 1);
        due("by what came behind alone", x.odds(1), 6);
    }

    private static void oddsNow() {
        says("Promise 8", "In how many of twelve a WHOLE coin would be REFUSED now (ab). BAD.");
        RefusedOnce x = tell(land(0, 20), 1, 20, 20);
        due("though it can't be OFFERED", x.odds(1), 3);
        due("the other way", x.odds(10), 3);
        law(x, "w/2+c/4");
        due("now", x.odds(1), 12);
        due("now, of who has none", x.odds(10), 5);
        for (int ab : new int[] {LEAST, -10, -1, 0, 2, 11, 20, 22, 100, MOST}) due("odds(" + ab + ")", x.odds(ab), BAD);
        due("of one alone", land(5).odds(1), BAD);
    }

    private static void later() {
        says("Promise 9", "WHOLE (what 0), CUT (1), farthings (2) of one.");
        RefusedOnce x = two();
        bytes(x, 0, 2, 2, 21);
        int[][] want = {{3, 5, 27}, {3, 3, 21}};
        for (int one = 0; one < 2; one++) {
            for (int what = 0; what <= 2; what++) due("later(" + one + ", " + what + ")", x.later(0, 20, one, what), want[one][what]);
            for (int what : new int[] {LEAST, -1, 3, MOST}) due("what " + what, x.later(0, 20, one, what), BAD);
        }
        for (int one : NOBODY) due("one " + one, x.later(0, 0, one, 0), BAD);
        for (int shelf : NO_SHELF) due("on " + shelf, x.later(shelf, 0, 0, 0), BAD);
        due("on nothing", x.later(1, 0, 0, 0), NOTHING);
        x.row(1, 1, 0);
        due("on shorts", x.later(1, 0, 0, 0), UNLIKE);
    }

    private static void evening() {
        says("Promise 10", "How many were REFUSED (what 0), the first that can't be (1; NOT), who REFUSED (2).");
        RefusedOnce x = two();
        bytes(x, 0, 2, 2, 20);
        due("how many", x.evening(0, 20, 0), 2);
        due("the first that can't be", x.evening(0, 20, 1), NOT);
        due("who", x.evening(0, 20, 2), 2);
        for (int what : new int[] {LEAST, -1, 3, MOST}) due("what " + what, x.evening(0, 20, what), BAD);
        due("how many of none", x.evening(0, 0, 0), 0);
        due("who of none", x.evening(0, 0, 2), 0);
        for (int shelf : NO_SHELF) due("on " + shelf, x.evening(shelf, 0, 0), BAD);
        due("on nothing", x.evening(1, 0, 0), NOTHING);
        x.row(1, 3, 0);
        due("on longs", x.evening(1, 0, 0), UNLIKE);
    }

    private static void round() {
        says("Promise 11", "A ROUND: how many REFUSED (k -1), the k-th kind (NOT: there are not as many, too). NOT.");
        RefusedOnce x = two();
        bytes(x, 0, 0, 1, 1, 0, 0, 1);
        due("how many", x.round(0, -1), 0);
        int[] kinds = {1, 0, 1};
        for (int k = 0; k < 3; k++) due("kind " + k, x.round(0, k), kinds[k]);
        for (int k : new int[] {3, 4, 9, 10, 11, 31, 32, MOST}) due("kind " + k, x.round(0, k), NOT);
        for (int k : new int[] {LEAST, -3, -2}) due("k " + k, x.round(0, k), BAD);
        bytes(x, 0);
        due("of an empty one", x.round(0, -1), 0);
        due("of an empty one, kind 0", x.round(0, 0), NOT);
        bytes(x, 0, times(10, 1, 0));
        due("ten of seven can't", x.round(0, -1), NOT);
        due("no kind then", x.round(0, 0), NOT);
        due("no tenth kind then", x.round(0, 9), NOT);
        due("k -2, not all can", x.round(0, -2), BAD);
    }

    private static void cleanest() {
        says("Promise 12", "CLEANEST. NOT (an empty ROUND, too).");
        RefusedOnce x = two();
        bytes(x, 0);
        due("an empty ROUND", x.cleanest(0), NOT);
        bytes(x, 0, 0);
        due("one that lacks at once", x.cleanest(0), NOT);
        bytes(x, 0, 0, 0, 0, 1);
        due("one that ends at once", x.cleanest(0), NOT);
        bytes(x, 0, 0, 1);
        due("of one", x.cleanest(0), 23);
        bytes(x, 0, times(8, 0, 1));
        due("not all can", x.cleanest(0), NOT);
        bytes(x, 0, times(7, 0, 1));
        due("all that he has", x.cleanest(0), 0);
        for (int shelf : NO_SHELF) due("on " + shelf, x.cleanest(shelf), BAD);
        due("on nothing", x.cleanest(1), NOTHING);
        x.row(1, 4, 0);
        due("on booleans", x.cleanest(1), UNLIKE);
    }

    private static void pay() {
        says("Promise 13", "PAY n: just r are REFUSED.");
        RefusedOnce x = land(5, 5);
        int[] above = {27, 27, 9, 1};
        for (int r = 0; r <= 3; r++) part("r " + r, x.pay(1, 3, r, 0), x.pay(1, 3, r, 1), above[r], 64);
        for (int r = 4; r <= 8; r++) part("r " + r, x.pay(1, 3, r, 0), x.pay(1, 3, r, 1), 0, 1);
        for (int ab : new int[] {LEAST, -1, 0, 2, 11, 20, MOST}) due("ab " + ab, x.pay(ab, 0, 0, 0), NO);
        for (int v : new int[] {LEAST, -1, 9, MOST}) {
            due("n " + v, x.pay(1, v, 0, 0), NO);
            due("r " + v, x.pay(1, 8, v, 0), NO);
        }
        for (int part : new int[] {LEAST, -1, 2, MOST}) due("part " + part, x.pay(1, 0, 0, part), NO);
    }

    private static void mean() {
        says("Promise 14", "MEAN.");
        RefusedOnce x = land(9, 5);
        int[] above = {0, 1, 1, 3, 1, 5, 3, 7, 2}, below = {1, 4, 2, 4, 1, 4, 2, 4, 1};
        for (int n = 0; n <= 8; n++) part("n " + n, x.mean(1, n, 0), x.mean(1, n, 1), above[n], below[n]);
        for (int ab : new int[] {LEAST, -1, 0, 2, 11, 20, MOST}) due("ab " + ab, x.mean(ab, 0, 0), NO);
        for (int n : new int[] {LEAST, -1, 9, MOST}) due("n " + n, x.mean(1, n, 0), NO);
        for (int part : new int[] {LEAST, -1, 2, MOST}) due("part " + part, x.mean(1, 0, part), NO);
    }

    private static void stays() {
        says("Promise 15", "AT RANDOM.");
        RefusedOnce x = land(5, 0);
        part("n 0", x.stays(0, 0), x.stays(0, 1), 1, 1);
        part("n 1", x.stays(1, 0), x.stays(1, 1), 3, 4);
        part("n 2", x.stays(2, 0), x.stays(2, 1), 9, 16);
        for (int n : new int[] {LEAST, -1, 3, MOST}) due("n " + n, x.stays(n, 0), NO);
        for (int part : new int[] {LEAST, -1, 2, MOST}) due("part " + part, x.stays(0, part), NO);
        RefusedOnce six = tell(land(10, 10, 10, 10, 10, 10), 2, 5, 5, 5, 5, 5, 5);
        // Each of 30 by 5 - 1 of twelve.
        part("of six, once", six.stays(1, 0), six.stays(1, 1), 2, 3);
        part("of six, twice", six.stays(2, 0), six.stays(2, 1), 4, 9);
    }

    private static void hands() {
        says("Promise 16", "FROM HAND TO HAND: the best (what 0), in which place (1). VOID: BAD, no ROW of bytes.");
        RefusedOnce x = two();
        bytes(x, 0, 0, 1, 0);
        due("the best", x.hands(0, 0), 7);
        due("in which place", x.hands(0, 1), 1);
        for (int what : new int[] {LEAST, -1, 2, MOST}) due("what " + what, x.hands(0, what), VOID);
        for (int shelf : NO_SHELF) due("on " + shelf, x.hands(shelf, 0), VOID);
        due("on nothing", x.hands(1, 0), VOID);
        x.body(0);
        x.keep(1, 0);
        due("on a BODY", x.hands(1, 1), VOID);
        for (int sort = 1; sort <= 4; sort++) {
            x.row(1, sort, 3);
            due("on sort " + sort, x.hands(1, 0), VOID);
        }
        x.row(1, 0, 0);
        due("on an empty ROW", x.hands(1, 0), 0);
    }

    private static void test() {
        says("Promise 17", "TEST.");
        RefusedOnce x = two();
        for (int t = 0; t <= 4; t++) {
            part("t " + t, x.test(1, t, 0), x.test(1, t, 1), t == 0 ? 0 : t == 2 ? 1 : t == 4 ? 1 : t,
                t == 0 ? 1 : t == 2 ? 2 : t == 4 ? 1 : 4);
        }
        part("t 20", x.test(1, 20, 0), x.test(1, 20, 1), 1, 1);
        part("none is FORGED", x.test(0, 20, 0), x.test(0, 20, 1), 0, 1);
        for (int one : NOBODY) due("one " + one, x.test(one, 0, 0), NO);
        for (int t : new int[] {LEAST, -1, 21, MOST}) due("t " + t, x.test(1, t, 0), NO);
        for (int part : new int[] {LEAST, -1, 2, MOST}) due("part " + part, x.test(1, 0, part), NO);
    }

    private static void enough() {
        says("Promise 18", "ENOUGH. BAD; NOT.");
        RefusedOnce x = two();
        int[] want = {0, 1, 1, 1, 2, 2, 2, 3, 3, 3, 4, 4, 4};
        for (int part = 0; part <= 12; part++) due("x " + part, x.enough(1, part), want[part]);
        due("none is FORGED", x.enough(0, 1), NOT);
        due("none is FORGED, by 0", x.enough(0, 0), 0);
        for (int one : NOBODY) due("one " + one, x.enough(one, 1), BAD);
        for (int part : new int[] {LEAST, -1, 13, MOST}) due("x " + part, x.enough(0, part), BAD);
    }

    private static void honest() {
        says("Promise 19", "HONEST (tm: 10 t and m).");
        RefusedOnce x = tell(two(), 3, 0, 2);
        part("one or more of three", x.honest(1, 31, 0), x.honest(1, 31, 1), 1, 1);
        part("two or more of three", x.honest(1, 32, 0), x.honest(1, 32, 1), 1, 2);
        part("three or more of three", x.honest(1, 33, 0), x.honest(1, 33, 1), 0, 1);
        part("nine of none", x.honest(1, 9, 0), x.honest(1, 9, 1), 0, 1);
        part("one of none", x.honest(1, 1, 0), x.honest(1, 1, 1), 0, 1);
        part("two of 20", x.honest(1, 202, 0), x.honest(1, 202, 1), 1, 1);
        part("nine of 20", x.honest(1, 209, 0), x.honest(1, 209, 1), 0, 1);
        int[] bad = {LEAST, -209, -31, -11, -10, -9, -1, 0, 10, 20, 200, 210, 211, 219, 1001, MOST};
        for (int tm : bad) due("tm " + tm, x.honest(1, tm, 0), NO);
        for (int one : NOBODY) due("one " + one, x.honest(one, 11, 0), NO);
        for (int part : new int[] {LEAST, -1, 2, MOST}) due("part " + part, x.honest(1, 11, part), NO);
    }

    private static void dowry() {
        says("Promise 20", "DOWRY of a set. BAD; NOT.");
        RefusedOnce x = two();
        due("all", x.dowry(3, 8), 3);
        due("one too many", x.dowry(3, 9), NOT);
        due("of 1", x.dowry(2, 3), 2);
        due("of 1, one too many", x.dowry(2, 4), NOT);
        for (int set : new int[] {LEAST, -1, 4, 5, 63, 64, MOST}) due("set " + set, x.dowry(set, 0), BAD);
        for (int n : new int[] {LEAST, -1, 100, MOST}) due("n " + n, x.dowry(3, n), BAD);
        due("BAD ahead of NOT", x.dowry(4, 99), BAD);
        due("99", x.dowry(3, 99), NOT);
    }

    private static void richest() {
        says("Promise 21", "RICHEST: bits. BAD.");
        RefusedOnce x = two();
        // 20 + 2 n and 12 + 4 n: like ones at 4.
        due("0", x.richest(0), 31);
        due("1", x.richest(1), 0);
        x.mend(1, 1, 5);
        due("0, but by 3", x.richest(0), 7);
        due("1, from 3 on", x.richest(1), 24);
        for (int one : NOBODY) due("one " + one, x.richest(one), BAD);
        due("nobody", new RefusedOnce().richest(0), BAD);
    }

    private static void behind() {
        says("Promise 22", "BEHIND: how many ways (what 0), the fewest (1; NOT), which OFFERS (2; NOT), CERTAIN (3).");
        RefusedOnce x = two();
        bytes(x, 0, 2, 20);
        int[] one = {1, 1, 1, 1}, none = {0, NOT, NOT, 0};
        bytes(x, 1, 5, 3, 2, 4);
        for (int what = 0; what <= 3; what++) due("one way, what " + what, x.behind(0, 1, what), one[what]);
        bytes(x, 1, 4, 3, 4, 4);
        for (int what = 0; what <= 3; what++) due("no way, what " + what, x.behind(0, 1, what), none[what]);
        bytes(x, 1, 9);
        for (int what = 0; what <= 3; what++) due("nobody can have it, what " + what, x.behind(0, 1, what), none[what]);
        for (int what : new int[] {LEAST, -1, 4, MOST}) due("what " + what, x.behind(0, 1, what), BAD);
        for (int shelf : NO_SHELF) {
            due("the EVENING on " + shelf, x.behind(shelf, 1, 0), BAD);
            due("told on " + shelf, x.behind(0, shelf, 0), BAD);
        }
    }

    private static void drawn() {
        says("Promise 23", "DRAWN (nm: 100 n and m): WHOLE (what 0), REFUSED (1). BAD.");
        RefusedOnce x = land(5, 0);
        law(x, "12");
        // All is REFUSED, so that what is left and what was REFUSED are five an evening.
        for (int n = 1; n <= 30; n++) {
            due(n + " evenings", x.drawn(n, 100 * n + 30, 0) + x.drawn(n, 100 * n + 30, 1), 5 * n);
        }
        law(x, "0");
        due("none is REFUSED", x.drawn(1, 3030, 1), 0);
        due("all stay", x.drawn(1, 3030, 0), 150);
        int[] bad = {LEAST, -3030, -101, -100, -1, 0, 1, 30, 100, 131, 200, 3000, 3031, 3100, 3101, MOST};
        for (int nm : bad) due("nm " + nm, x.drawn(1, nm, 0), BAD);
        for (int what : new int[] {LEAST, -1, 2, MOST}) due("what " + what, x.drawn(1, 101, what), BAD);
    }

    private static void anOffer() {
        says("Promise 24", "An OFFER of a WHOLE coin (kind 0 taken, 1 REFUSED), of a CUT one (2): who has it then.");
        RefusedOnce x = land(5, 5, 5, 5, 5, 5);
        for (int by = 0; by < 6; by++) {
            int to = (by + 1) % 6;
            due("taken", x.offer(10 * by + to, 0), to);
            due("REFUSED", x.offer(10 * by + to, 1), by);
            due("CUT", x.offer(10 * by + to, 2), to);
        }
        due("it does not ask THE LAW", x.led(1), 6);
        law(x, "12");
        due("though all would be REFUSED", x.offer(1, 0), 1);
        law(x, "0");
        due("though none would be", x.offer(1, 1), 0);
    }

    private static void itCannotBe() {
        says("Promise 24", "BAD; STATE: it can't be.");
        RefusedOnce x = tell(land(0, 20), 1, 0, 20);
        for (int kind = 0; kind <= 2; kind++) due("he has none, kind " + kind, x.offer(1, kind), STATE);
        x = tell(land(1, 20), 1, 1, 20);
        for (int kind = 0; kind <= 2; kind++) due("the other has 20, kind " + kind, x.offer(1, kind), STATE);
        due("he has 20 CUT, taken", x.offer(10, 0), STATE);
        due("he has 20 CUT, REFUSED", x.offer(10, 1), STATE);
        due("he has 20 CUT, one of them", x.offer(10, 2), 0);
        for (int kind : new int[] {LEAST, -1, 3, MOST}) {
            due("kind " + kind, x.offer(10, kind), BAD);
            due("what can't be, kind " + kind, x.offer(1, kind), BAD);
        }
        for (int ab : new int[] {LEAST, -10, -1, 0, 2, 11, 12, 20, 100, MOST}) due("ab " + ab, x.offer(ab, 2), BAD);
        due("one was OFFERED", x.led(0), 1);
    }

    private static void mint() {
        says("Promise 25", "MINTED: WHOLE then. BAD; STATE: he has no CUT one, or 20 WHOLE.");
        RefusedOnce x = tell(land(19, 20, 0), 1, 2, 1, 0);
        due("the 20th", x.mint(0), 20);
        due("he has 20", x.mint(0), STATE);
        due("he has 20 from the first", x.mint(1), STATE);
        due("he has no CUT one", x.mint(2), STATE);
        due("CUT of 0", x.of(0, 1), 1);
        due("CUT of 1", x.of(1, 1), 1);
        due("WHOLE of 2", x.of(2, 0), 0);
        for (int one : new int[] {LEAST, -1, 3, 6, MOST}) due("one " + one, x.mint(one), BAD);
        due("how many", x.led(2), 1);
    }

    private static void hour() {
        says("Promise 26", "An HOUR passes: HOUR then.");
        RefusedOnce x = new RefusedOnce();
        for (int i = 1; i <= 26; i++) {
            due("hour()", x.hour(), i % 12);
            due("of(0, 5)", x.of(0, 5), i % 12);
            due("led(3)", x.led(3), i);
        }
    }

    private static void led() {
        says("Promise 27", "LED: OFFERS (what 0), REFUSED (1), MINTED (2), hours (3). BAD.");
        RefusedOnce x = land(5, 5);
        x.offer(1, 0);
        x.offer(1, 1);
        x.offer(1, 1);
        x.offer(1, 2);
        x.mint(0);
        for (int i = 0; i < 13; i++) x.hour();
        int[] want = {4, 2, 1, 13};
        for (int what = 0; what <= 3; what++) due("led(" + what + ")", x.led(what), want[what]);
        for (int what : new int[] {LEAST, -1, 4, MOST}) due("led(" + what + ")", x.led(what), BAD);
    }

    private static void image() {
        says("Promise 28", "AN IMAGE is kept: OFFERS.");
        RefusedOnce x = land(5, 5);
        due("ahead of any", x.image(), 0);
        x.offer(1, 0);
        x.offer(1, 2);
        due("behind one", x.image(), 1);
        x.offer(1, 1);
        x.offer(1, 2);
        due("behind three", x.image(), 3);
        due("of nobody", new RefusedOnce().image(), 0);
    }

    private static void backWhereThereIsNone() {
        says("Promise 29", "OFFERS. STATE: there is none.");
        RefusedOnce x = land(5, 5);
        due("there is none", x.back(), STATE);
        x.offer(1, 0);
        due("there is none", x.back(), STATE);
        x.image();
        due("at once", x.back(), 1);
        x.offer(1, 0);
        due("OFFERS of the image", x.back(), 1);
        due("WHOLE", x.of(0, 0), 4);
        x.offer(1, 0);
        x.offer(1, 0);
        due("once more", x.back(), 1);
        due("WHOLE", x.of(0, 0), 4);
        x.offer(1, 0);
        x.image();
        x.offer(1, 0);
        due("the latest one", x.back(), 2);
        RefusedOnce nobody = new RefusedOnce();
        nobody.image();
        due("of nobody", nobody.back(), 0);
    }

    private static void peopleThatCameSince() {
        says("Promise 29", "It is laid back (PEOPLE that came since as they are)");
        RefusedOnce x = land(5);
        x.image();
        x.person(9);
        x.row(0, 0, 3);
        x.put(0, 1, 7);
        x.people(0, 0, 1);
        x.offer(1, 0);
        x.offer(21, 2);
        due("laid back", x.back(), 0);
        due("PEOPLE", x.count(0), 3);
        due("WHOLE of 0", x.of(0, 0), 5);
        due("WHOLE of 1 as it is", x.of(1, 0), 10);
        due("CUT of 1 as it is", x.of(1, 1), 1);
        due("CUT of 2 as it is", x.of(2, 1), 6);
        RefusedOnce nobody = new RefusedOnce();
        nobody.image();
        nobody.person(4);
        nobody.hour();
        due("an image of nobody", nobody.back(), 0);
        due("WHOLE as it is", nobody.of(0, 0), 4);
        due("HOUR", nobody.of(0, 5), 0);
    }

    private static void undo() {
        says("Promise 30", "UNDONE: how many may still be. STATE: none.");
        RefusedOnce x = land(5, 5);
        due("none", x.undo(), STATE);
        x.mend(0, 0, 6);
        due("the only one", x.undo(), 0);
        due("none", x.undo(), STATE);
        due("as it was", x.of(0, 0), 5);
        x.mend(0, 0, 6);
        x.mend(0, 0, 7);
        due("the latest", x.undo(), 1);
        due("as the one ahead told it", x.of(0, 0), 6);
        x.mend(0, 0, 8);
        due("what was undone is gone", x.undo(), 1);
        due("as the one ahead told it", x.of(0, 0), 6);
        due("the first", x.undo(), 0);
        due("as at first", x.of(0, 0), 5);
    }

    private static void redo() {
        says("Promise 31", "DONE AGAIN: how many may still be. STATE: none.");
        RefusedOnce x = land(5, 5);
        due("none", x.redo(), STATE);
        x.mend(0, 0, 6);
        x.mend(0, 0, 7);
        due("none is undone", x.redo(), STATE);
        x.undo();
        due("the only one", x.redo(), 0);
        due("none", x.redo(), STATE);
        due("as told", x.of(0, 0), 7);
        x.undo();
        x.undo();
        due("the first of two", x.redo(), 1);
        due("as told", x.of(0, 0), 6);
        due("it may be UNDONE", x.count(4), 1);
        due("the second", x.redo(), 0);
        due("none", x.redo(), STATE);
        x.undo();
        due("again", x.redo(), 0);
        for (int i = 0; i < 50; i++) x.mend(0, 2, i % 3);
        for (int i = 0; i < 40; i++) x.undo();
        for (int i = 39; i >= 0; i--) due("of 40", x.redo(), i);
        due("none", x.redo(), STATE);
        due("as told at last", x.of(0, 2), 1);
    }

    private static void body() {
        says("Promise 32", "A BODY of a KIND (0 .. 7) is kept: its number. BAD, FULL.");
        RefusedOnce x = new RefusedOnce();
        for (int kind : new int[] {LEAST, -1, 8, MOST}) due("kind " + kind, x.body(kind), BAD);
        for (int i = 0; i < 50; i++) due("body", x.body(7 - i % 8), i);
        due("one more", x.body(0), FULL);
        for (int kind : new int[] {LEAST, -1, 8, MOST}) due("kind " + kind, x.body(kind), BAD);
        due("how many", x.count(5), 50);
        x.keep(0, 49);
        due("the last one's KIND", x.taken(0, 0), 6);
    }

    private static void noSuchAct() {
        says("Promise 33", "An ACT (0 .. 3) of a BODY with x. 0, and no TRACE then: no such BODY, ACT.");
        RefusedOnce x = new RefusedOnce();
        due("no BODY at all", x.act(0, 0, 5), 0);
        x.body(0);
        x.body(0);
        int[] want = {6, 12, 4, 12};
        for (int act = 0; act <= 3; act++) due("act " + act, x.act(1, act, 5), want[act]);
        int[][] none = {{-1, 0}, {2, 0}, {LEAST, 0}, {MOST, 0}, {49, 3}, {50, 0}, {0, -1}, {0, 4}, {0, LEAST}, {0, MOST}};
        for (int[] each : none) {
            x.act(1, 3, 5);
            due("there is a TRACE", x.count(6), 4);
            due("BODY " + each[0] + ", ACT " + each[1], x.act(each[0], each[1], 5), 0);
            due("no TRACE then", x.trace(0), BAD);
            due("none ran", x.count(6), 0);
        }
    }

    private static void trace() {
        says("Promise 34", "THE TRACE's i-th body. BAD.");
        RefusedOnce x = new RefusedOnce();
        x.body(0);
        due("ahead of any act", x.trace(0), BAD);
        x.act(0, 3, 5);
        int[] want = {2, 10, 1, 11, BAD};
        for (int i = 0; i < 5; i++) due("trace(" + i + ")", x.trace(i), want[i]);
        for (int i : new int[] {LEAST, -1, 23, 24, MOST}) due("trace(" + i + ")", x.trace(i), BAD);
    }

    private static void keep() {
        says("Promise 35", "A SHELF holds nothing (body -1), or a BODY: 1. BAD.");
        RefusedOnce x = new RefusedOnce();
        due("no BODY yet", x.keep(0, 0), BAD);
        due("nothing", x.keep(0, -1), 1);
        x.body(4);
        x.body(5);
        due("the last BODY", x.keep(0, 1), 1);
        for (int body : new int[] {LEAST, -2, 2, 49, 50, MOST}) due("body " + body, x.keep(0, body), BAD);
        due("is there still", x.taken(0, 0), 5);
        for (int shelf : NO_SHELF) due("on " + shelf, x.keep(shelf, 0), BAD);
        for (int shelf : NO_SHELF) due("nothing on " + shelf, x.keep(shelf, -1), BAD);
        due("nothing", x.keep(0, -1), 1);
        due("is there", x.taken(0, 0), NOTHING);
    }

    private static void row() {
        says("Promise 36", "A SHELF holds a ROW: 1. BAD (sort, n above 60); -14.");
        RefusedOnce x = new RefusedOnce();
        for (int sort = 0; sort <= 4; sort++) {
            due("of 0", x.row(0, sort, 0), 1);
            due("of 60", x.row(0, sort, 60), 1);
            due("of 61", x.row(0, sort, 61), BAD);
            due("of MOST", x.row(0, sort, MOST), BAD);
            due("of -1", x.row(0, sort, -1), NO_SIZE);
            due("of LEAST", x.row(0, sort, LEAST), NO_SIZE);
        }
        for (int sort : new int[] {LEAST, -1, 5, MOST}) {
            due("sort " + sort, x.row(0, sort, 1), BAD);
            due("sort " + sort + " ahead of -14", x.row(0, sort, -1), BAD);
        }
        for (int shelf : NO_SHELF) due("on " + shelf, x.row(shelf, 0, 1), BAD);
        for (int shelf : NO_SHELF) due("of -1 on " + shelf, x.row(shelf, 0, -1), BAD);
        due("of 60 still", x.put(0, 59, 1), 1);
    }

    private static void put() {
        says("Promise 37", "Element i of a ROW becomes v: 1. BAD, -11, -12, -13.");
        RefusedOnce x = new RefusedOnce();
        for (int shelf : NO_SHELF) due("on " + shelf, x.put(shelf, 0, 1), BAD);
        for (int i : new int[] {LEAST, -1, 0, MOST}) due("on nothing, " + i, x.put(0, i, 1), NOTHING);
        x.body(0);
        x.keep(0, 0);
        for (int i : new int[] {LEAST, -1, 0, MOST}) due("on a BODY, " + i, x.put(0, i, 1), UNLIKE);
        x.row(0, 3, 3);
        for (int i : new int[] {LEAST, -1, 3, 59, 60, MOST}) due("place " + i, x.put(0, i, 1), NO_PLACE);
        due("the first", x.put(0, 0, Long.MAX_VALUE), 1);
        due("the last", x.put(0, 2, Long.MIN_VALUE), 1);
        due("the first", x.element(0, 0), Long.MAX_VALUE);
        due("the middle", x.element(0, 1), 0);
        due("the last", x.element(0, 2), Long.MIN_VALUE);
    }

    private static void element() {
        says("Promise 38", "Element i of a ROW; Long.MIN_VALUE: BAD, -11 to -13.");
        RefusedOnce x = new RefusedOnce();
        for (int shelf : NO_SHELF) due("on " + shelf, x.element(shelf, 0), NO);
        for (int i : new int[] {LEAST, -1, 0, MOST}) due("on nothing, " + i, x.element(0, i), NO);
        x.body(0);
        x.keep(0, 0);
        for (int i : new int[] {LEAST, -1, 0, MOST}) due("on a BODY, " + i, x.element(0, i), NO);
        for (int sort = 0; sort <= 4; sort++) {
            x.row(0, sort, 60);
            x.put(0, 59, 1);
            x.row(0, sort, 3);
            for (int i : new int[] {LEAST, -1, 3, 59, 60, MOST}) due("place " + i, x.element(0, i), NO);
            x.put(0, 2, 1);
            due("the first", x.element(0, 0), 0);
            due("the last", x.element(0, 2), 1);
        }
        x.row(0, 3, 1);
        for (long v : new long[] {-14, -13, -12, -11, -1, Long.MIN_VALUE + 1, Long.MIN_VALUE, Long.MAX_VALUE}) {
            x.put(0, 0, v);
            due("an element " + v, x.element(0, 0), v);
        }
    }

    private static RefusedOnce twoRows() {
        RefusedOnce x = new RefusedOnce();
        bytes(x, 0, 1, 2, 3, 4, 5);
        bytes(x, 1, 9, 9, 9);
        return x;
    }

    private static void holds(RefusedOnce x, int shelf, int... want) {
        for (int i = 0; i < want.length; i++) due("element " + i + " on " + shelf, x.element(shelf, i), want[i]);
        due("no more on " + shelf, x.element(shelf, want.length), NO);
    }

    private static void asTheyAllWereBefore() {
        says("Promise 39", "n elements of a ROW from i on come to another one (or the same) from j on, as they all were before: n.");
        RefusedOnce x = twoRows();
        due("to another", x.shift(0, 1, 1, 0, 3), 3);
        holds(x, 1, 2, 3, 4);
        holds(x, 0, 1, 2, 3, 4, 5);
        due("later on the same", x.shift(0, 0, 0, 1, 4), 4);
        holds(x, 0, 1, 1, 2, 3, 4);
        due("earlier on the same", x.shift(0, 1, 0, 0, 4), 4);
        holds(x, 0, 1, 2, 3, 4, 4);
        due("all on the same", x.shift(0, 0, 0, 0, 5), 5);
        holds(x, 0, 1, 2, 3, 4, 4);
        due("none", x.shift(0, 2, 1, 1, 0), 0);
        due("none from the end on, to the end", x.shift(0, 5, 1, 3, 0), 0);
        holds(x, 1, 2, 3, 4);
        for (int sort = 1; sort <= 4; sort++) {
            RefusedOnce y = new RefusedOnce();
            y.row(0, sort, 60);
            y.row(1, sort, 60);
            y.put(0, 59, 1);
            due("all of 60", y.shift(0, 0, 1, 0, 60), 60);
            due("the last", y.element(1, 59), 1);
        }
        RefusedOnce y = new RefusedOnce();
        y.row(0, 2, 0);
        due("none of none", y.shift(0, 0, 0, 0, 0), 0);
        due("one of none", y.shift(0, 0, 0, 0, 1), NO_PLACE);
    }

    private static void shiftRefused() {
        says("Promise 39", "BAD, -11 (either), -12 (no ROWS, or of unlike sorts), -13 (n below 0, too).");
        RefusedOnce x = twoRows();
        x.body(0);
        x.keep(2, 0);
        x.row(3, 1, 5);
        for (int shelf : NO_SHELF) {
            due("from " + shelf, x.shift(shelf, 0, 4, 0, -1), BAD);
            due("to " + shelf, x.shift(4, 0, shelf, 0, -1), BAD);
        }
        due("from nothing", x.shift(4, 0, 0, 0, -1), NOTHING);
        due("to nothing", x.shift(0, 0, 4, 0, -1), NOTHING);
        due("from nothing to nothing", x.shift(4, 0, 4, 0, 0), NOTHING);
        due("from a BODY to nothing", x.shift(2, 0, 4, 0, 0), NOTHING);
        due("from nothing to a BODY", x.shift(4, 0, 2, 0, 0), NOTHING);
        due("from a BODY", x.shift(2, 0, 0, 0, -1), UNLIKE);
        due("to a BODY", x.shift(0, 0, 2, 0, -1), UNLIKE);
        due("from a BODY to it", x.shift(2, 0, 2, 0, 0), UNLIKE);
        due("of unlike sorts", x.shift(0, 0, 3, 0, -1), UNLIKE);
        due("of unlike sorts, the other way", x.shift(3, 0, 0, 0, 0), UNLIKE);
        int[][] wrong = {{0, 0, -1}, {0, 0, LEAST}, {-1, 0, 0}, {-1, 0, 1}, {0, -1, 1}, {LEAST, 0, 1}, {0, LEAST, 1}, {3, 0, 3}, {0, 1, 3},
            {0, 0, 4}, {6, 0, 0}, {0, 4, 0}, {5, 0, 1}, {0, 3, 1}, {MOST, 0, 1}, {0, MOST, 1}, {1, 1, MOST}, {MOST, MOST, MOST}};
        for (int[] each : wrong) {
            due("i " + each[0] + ", j " + each[1] + ", n " + each[2], x.shift(0, each[0], 1, each[1], each[2]), NO_PLACE);
        }
        holds(x, 0, 1, 2, 3, 4, 5);
        holds(x, 1, 9, 9, 9);
    }

    private static void taken() {
        says("Promise 40", "What a SHELF holds, taken for a BODY of KIND k (0 .. 7), or under it: its KIND. BAD, -11, -12.");
        RefusedOnce x = new RefusedOnce();
        for (int k = 0; k < 8; k++) due("nothing, for " + k, x.taken(0, k), NOTHING);
        x.row(0, 0, 3);
        for (int k = 0; k < 8; k++) due("a ROW, for " + k, x.taken(0, k), UNLIKE);
        for (int i = 0; i < 8; i++) x.body(7 - i);
        x.keep(0, 2);
        int[] rich = {5, UNLIKE, 5, 5, UNLIKE, 5, UNLIKE, UNLIKE};
        for (int k = 0; k < 8; k++) due("a RICH one, for " + k, x.taken(0, k), rich[k]);
        x.keep(0, 0);
        int[] mint = {7, UNLIKE, UNLIKE, UNLIKE, UNLIKE, UNLIKE, 7, 7};
        for (int k = 0; k < 8; k++) due("a MINT, for " + k, x.taken(0, k), mint[k]);
        x.keep(0, 7);
        for (int k = 0; k < 8; k++) due("a NO, for " + k, x.taken(0, k), k == 0 ? 0 : UNLIKE);
        for (int k : new int[] {LEAST, -1, 8, MOST}) {
            due("k " + k, x.taken(0, k), BAD);
            due("nothing, k " + k, x.taken(1, k), BAD);
        }
        for (int shelf : NO_SHELF) due("on " + shelf, x.taken(shelf, 0), BAD);
    }

    private static void count() {
        says("Promise 41", "0 PEOPLE, 1 WHOLE coins of all, 2 CUT ones, 3 bytes on THE TAPE, 4 changes that may be UNDONE, 5 BODIES, 6"
            + " bodies that ran in the latest act() (all, kept or not). BAD.");
        RefusedOnce x = two();
        x.feed('p');
        x.body(7);
        x.act(0, 3, 1);
        int[] want = {2, 8, 6, 1, 4, 1, 8};
        for (int what = 0; what <= 6; what++) due("count(" + what + ")", x.count(what), want[what]);
        for (int what : new int[] {LEAST, -1, 7, MOST}) due("count(" + what + ")", x.count(what), BAD);
        x.undo();
        due("one less may be UNDONE", x.count(4), 3);
        x.act(0, 4, 1);
        due("none ran", x.count(6), 0);
        RefusedOnce most = tell(land(20, 20, 20, 20, 20, 20), 1, 20, 20, 20, 20, 20, 20);
        due("the most WHOLE coins", most.count(1), 120);
        due("the most CUT ones", most.count(2), 120);
    }

    public static void main(String[] args) throws IOException, IllegalAccessException {
        run(PromiseBoundariesTest.class, args, 41);
    }
}
