/** For each promise of the document: ordinary inputs, the edges that it names, and wrong inputs. */
public final class PromisesTest {
    private static final int BAD = -1, NOT = -2, FULL = -3, STATE = -5, VOID = -2000000000;
    private static final int LEAST = Integer.MIN_VALUE, MOST = Integer.MAX_VALUE;
    private static final long NO = Long.MIN_VALUE;

    private static int promise;
    private static int checked;
    private static int wrong;

    private static void due(String call, long got, long want) {
        checked++;
        if (got != want) {
            wrong++;
            System.out.println("promise " + promise + ": " + call + " answered " + got + ", due is " + want);
        }
    }

    /** People with so many whole coins each. */
    private static RefusedOnce land(int... whole) {
        RefusedOnce x = new RefusedOnce();
        for (int each : whole) x.person(each);
        return x;
    }

    private static void bytes(RefusedOnce x, int shelf, int... values) {
        x.row(shelf, 0, values.length);
        for (int i = 0; i < values.length; i++) x.put(shelf, i, values[i]);
    }

    private static int law(RefusedOnce x, String text) {
        for (int i = 0; i < text.length(); i++) x.feed(text.charAt(i));
        return x.law();
    }

    private static int odds(String text) {
        RefusedOnce x = land(5, 7);
        x.mend(1, 1, 2);
        x.mend(1, 2, 9);
        x.mend(0, 2, 4);
        x.mend(0, 5, 10);
        law(x, text);
        return x.odds(1);
    }

    private static void fraction(String call, long above, long below, long wantAbove, long wantBelow) {
        due(call + " above", above, wantAbove);
        due(call + " below", below, wantBelow);
    }

    private static void pay(RefusedOnce x, int ab, int n, int r, long above, long below) {
        fraction("pay(" + ab + ", " + n + ", " + r + ")", x.pay(ab, n, r, 0), x.pay(ab, n, r, 1), above, below);
    }

    private static void mean(RefusedOnce x, int ab, int n, long above, long below) {
        fraction("mean(" + ab + ", " + n + ")", x.mean(ab, n, 0), x.mean(ab, n, 1), above, below);
    }

    private static void stays(RefusedOnce x, int n, long above, long below) {
        fraction("stays(" + n + ")", x.stays(n, 0), x.stays(n, 1), above, below);
    }

    private static void test(RefusedOnce x, int one, int t, long above, long below) {
        fraction("test(" + one + ", " + t + ")", x.test(one, t, 0), x.test(one, t, 1), above, below);
    }

    private static void honest(RefusedOnce x, int one, int tm, long above, long below) {
        fraction("honest(" + one + ", " + tm + ")", x.honest(one, tm, 0), x.honest(one, tm, 1), above, below);
    }

    private static void aNewObject() {
        RefusedOnce x = new RefusedOnce();
        for (int what = 0; what <= 6; what++) due("count(" + what + ")", x.count(what), 0);
        due("of(0, 4)", x.of(0, 4), 3);
        due("of(0, 5)", x.of(0, 5), 0);
        due("of(0, 6)", x.of(0, 6), 6);
        due("of(0, 0)", x.of(0, 0), BAD);
        for (int what = 0; what < 4; what++) due("led(" + what + ")", x.led(what), 0);
        for (int shelf = 0; shelf < 6; shelf++) due("element on " + shelf, x.element(shelf, 0), NO);
        due("undo()", x.undo(), STATE);
        due("redo()", x.redo(), STATE);
        due("back()", x.back(), STATE);
        due("trace(0)", x.trace(0), BAD);
        due("BAD", RefusedOnce.BAD, -1);
        due("NOT", RefusedOnce.NOT, -2);
        due("FULL", RefusedOnce.FULL, -3);
        due("STATE", RefusedOnce.STATE, -5);
        due("VOID", RefusedOnce.VOID, -2000000000);
    }

    private static void person() {
        RefusedOnce x = new RefusedOnce();
        due("person(0)", x.person(0), 0);
        due("person(20)", x.person(20), 1);
        due("person(21)", x.person(21), BAD);
        due("person(-1)", x.person(-1), BAD);
        due("person(MOST)", x.person(MOST), BAD);
        due("person(LEAST)", x.person(LEAST), BAD);
        for (int i = 2; i < 6; i++) due("person(" + i + ")", x.person(i), i);
        due("a seventh", x.person(1), FULL);
        due("a seventh, wrong too", x.person(21), BAD);
        due("of(1, 0)", x.of(1, 0), 20);
        due("of(1, 1)", x.of(1, 1), 0);
        due("of(1, 2)", x.of(1, 2), 3);
        due("of(1, 3)", x.of(1, 3), 0);
    }

    private static void people() {
        RefusedOnce x = new RefusedOnce();
        due("of an empty shelf", x.people(0, 0, 1), 0);
        bytes(x, 0, 9, 20, 20, 12, 0, 0, 0, 21, 0, 0);
        due("n 0", x.people(0, 0, 0), BAD);
        due("n 7", x.people(0, 0, 7), BAD);
        due("shelf -1", x.people(-1, 0, 1), BAD);
        due("shelf 6", x.people(6, 0, 1), BAD);
        due("i below 0", x.people(0, -1, 1), 0);
        due("i least", x.people(0, LEAST, 6), 0);
        due("i most", x.people(0, MOST, 6), 0);
        due("till one is not as it may be", x.people(0, 1, 3), 2);
        due("whole", x.of(0, 0), 20);
        due("cut", x.of(0, 1), 20);
        due("pride", x.of(0, 2), 12);
        due("forged", x.of(0, 3), 0);
        due("pride of the other", x.of(1, 2), 0);
        due("ends within a three", x.people(0, 8, 1), 0);
        RefusedOnce other = new RefusedOnce();
        bytes(other, 0, 1, 2, 3, 4, 5, 6);
        due("to the end of the row", other.people(0, 0, 6), 2);
        due("the last three", other.people(0, 3, 1), 1);
        due("none of it is lost", other.of(2, 2), 6);
        bytes(x, 1, 1, 21, 0);
        due("cut 21", x.people(1, 0, 1), 0);
        bytes(x, 1, 1, 2, 13);
        due("pride 13", x.people(1, 0, 1), 0);
        bytes(x, 1, -1, 2, 3);
        due("whole -1", x.people(1, 0, 1), 0);
        bytes(x, 1, 1, 1, 1, 2, 2, 2, 3, 3, 3, 4, 4, 4, 5, 5, 5, 6, 6, 6);
        due("till they are full", x.people(1, 0, 6), 4);
        due("when they are full", x.people(1, 0, 1), 0);
        due("the last one", x.of(5, 0), 4);
        x.row(2, 1, 3);
        due("of shorts", x.people(2, 0, 1), -12);
        due("of shorts, i below 0", x.people(2, -1, 1), -12);
        x.body(0);
        x.keep(2, 0);
        due("of a body", x.people(2, 0, 1), -12);
    }

    private static void mend() {
        RefusedOnce x = land(4, 5);
        int[] most = {20, 20, 12, 20, 4, 11, 12};
        int[] was = {4, 0, 3, 0, 3, 0, 6};
        for (int what = 0; what <= 6; what++) {
            due("beyond, what " + what, x.mend(0, what, most[what] + 1), BAD);
            due("below, what " + what, x.mend(0, what, -1), BAD);
            due("the most, what " + what, x.mend(0, what, most[what]), was[what]);
            due("the least, what " + what, x.mend(0, what, 0), most[what]);
            due("no such number, what " + what, x.mend(2, what, 1), BAD);
            due("number below 0, what " + what, x.mend(-1, what, 1), BAD);
            due("of it", x.of(0, what), 0);
        }
        due("notch of number 1", x.mend(1, 4, 1), BAD);
        due("hour of number 1", x.mend(1, 5, 1), BAD);
        due("habit of number 1", x.mend(1, 6, 1), BAD);
        due("what 7", x.mend(0, 7, 1), BAD);
        due("what 8", x.mend(0, 8, 1), BAD);
        due("what -1", x.mend(0, -1, 1), BAD);
        due("the other one is as he was", x.of(1, 0), 5);
        due("changes", x.count(4), 14);
        due("the same number", x.mend(0, 0, 0), 0);
        due("is no change", x.count(4), 14);
    }

    private static void of() {
        RefusedOnce x = land(4, 5);
        x.mend(1, 1, 3);
        x.mend(1, 3, 7);
        due("whole", x.of(1, 0), 5);
        due("cut", x.of(1, 1), 3);
        due("pride", x.of(1, 2), 3);
        due("forged as told", x.of(1, 3), 7);
        due("farthings", x.of(1, 7), 29);
        due("forged that count", x.of(1, 8), 3);
        x.mend(0, 4, 0);
        due("farthings, notch 0", x.of(1, 7), 20);
        x.mend(0, 4, 4);
        due("farthings, notch 4", x.of(1, 7), 32);
        x.mend(1, 1, 9);
        due("forged that count, of many", x.of(1, 8), 7);
        due("notch", x.of(0, 4), 4);
        due("notch of 1", x.of(1, 4), BAD);
        due("hour of 1", x.of(1, 5), BAD);
        due("habit of 1", x.of(1, 6), BAD);
        for (int what = 0; what <= 9; what++) due("of nobody, what " + what, x.of(2, what), BAD);
        due("what 9", x.of(0, 9), BAD);
        due("what -1", x.of(0, -1), BAD);
        due("number -1", x.of(-1, 0), BAD);
        due("number most", x.of(MOST, 7), BAD);
    }

    private static void feed() {
        RefusedOnce x = new RefusedOnce();
        due("-1", x.feed(-1), BAD);
        due("256", x.feed(256), BAD);
        for (int i = 1; i <= 120; i++) due("feed", x.feed(i == 1 ? 255 : i == 2 ? 0 : '1'), i);
        due("the 121st", x.feed('1'), FULL);
        due("the 121st, wrong too", x.feed(256), BAD);
        due("count(3)", x.count(3), 120);
        due("law()", x.law(), -100);
        due("is empty then", x.count(3), 0);
        due("feed again", x.feed('1'), 1);
    }

    private static void fault(String text, int place) {
        due("law of " + text, law(new RefusedOnce(), text), -100 - place);
    }

    private static void law() {
        String[] texts = {"1", "p", "9999", "0001", "p+b*w/c%h-n", "p|b&w", "p<b", "p=b|w>c&h<n", "!-!-!-1", "((((((1))))))",
            "!(!(-(p)))", "(1<2)<(3)", "(1<2)=3", "1;2;3", "p?1", "p?1;b?2;3", "(p|b)?(w);!n", "-1--1", "1<-1", "1+!!!!!!1",
            "(1)+((((((2))))))"};
        for (String text : texts) due("law of " + text, law(new RefusedOnce(), text), 1);
        fault("", 0);
        fault("12345", 4);
        fault("1 ", 1);
        fault(" 1", 0);
        fault("p+", 2);
        fault("p+*", 2);
        fault("pb", 1);
        fault("p1", 1);
        fault("1p", 1);
        fault("(1", 2);
        fault("(1;", 2);
        fault("(1?", 2);
        fault("1)", 1);
        fault("()", 1);
        fault("1<2<3", 3);
        fault("1<2=3", 3);
        fault("1<2+3>4", 5);
        fault("(1<2<3)", 4);
        fault("1?2?3", 3);
        fault("1?", 2);
        fault("1?;", 2);
        fault("?1", 0);
        fault(";1", 0);
        fault("1;", 2);
        fault("1;;2", 2);
        fault("!", 1);
        fault("!)", 1);
        fault("+1", 0);
        fault("((((((( 1", 6);
        fault("!!!!!!!1", 6);
        fault("-(-(-(-1", 6);
        fault("1+((!(-(!1", 8);
        fault("((((((1)))))))", 13);
        fault("x", 0);
        fault("P", 0);
        fault("1\u00e9", 1);
        fault("1" + (char) 0, 1);
        fault("1&&2", 2);
        RefusedOnce x = land(5, 5);
        due("a law", law(x, "7"), 1);
        due("by it", x.odds(1), 7);
        due("a faulty one", law(x, "8+"), -102);
        due("is as it was", x.odds(1), 7);
        due("an empty tape", x.law(), -100);
        due("is as it was", x.odds(1), 7);
        String longest = "1+1+1+1+1+1+1+1+1+1+1+1+1+1+1+1+1+1+1+1+1+1+1+1+1+1+1+1+1+1+1+1+1+1+1+1+1+1+1+1+"
            + "1+1+1+1+1+1+1+1+1+1+1+1+1+1+1+1+1+1+1-50";
        due("120 bytes", longest.length(), 120);
        due("a long one", law(x, longest), 1);
        due("by it", x.odds(1), 9);
        x = land(5, 5);
        for (int i = 0; i < 60; i++) {
            x.feed('1');
            x.feed(i < 59 ? ';' : '+');
        }
        due("it ends too early at the end of the tape", x.law(), -220);
        due("it is no change", x.count(4), 0);
    }

    private static void odds() {
        RefusedOnce x = land(5, 7);
        due("of the same", x.odds(0), BAD);
        due("of the same", x.odds(11), BAD);
        due("of nobody", x.odds(2), BAD);
        due("of nobody", x.odds(20), BAD);
        due("below 0", x.odds(-1), BAD);
        due("least", x.odds(LEAST), BAD);
        due("most", x.odds(MOST), BAD);
        due("without a text", x.odds(1), 3);
        x.mend(1, 2, 10);
        x.mend(0, 5, 8);
        due("p, h by 3", x.odds(1), 12);
        x.mend(0, 2, 7);
        due("less b by 4", x.odds(1), 11);
        x.mend(0, 5, 2);
        due("h by 3 cut", x.odds(1), 9);
        x.mend(0, 2, 12);
        x.mend(1, 2, 2);
        due("held at 0", x.odds(1), 0);
        x.mend(1, 2, 12);
        x.mend(0, 2, 3);
        x.mend(0, 5, 11);
        due("held at 12", x.odds(1), 12);
        // In odds(text) pride is 9 of whom it is offered to, 4 of who offers; whole 7, cut 2, hour 10, notch 3.
        due("p", odds("p"), 9);
        due("b", odds("b"), 4);
        due("w", odds("w"), 7);
        due("c", odds("c"), 2);
        due("h", odds("h"), 10);
        due("n", odds("n"), 3);
        due("%", odds("w%b"), 3);
        due("/", odds("h/b"), 2);
        due("/ toward 0", odds("5+-7/2"), 2);
        due("% toward 0", odds("5+-7%4"), 2);
        due("/ by 0", odds("5+7/0"), 5);
        due("% by 0", odds("5+7%0"), 5);
        due("from the left", odds("9-3-2"), 4);
        due("from the left", odds("8/2/2"), 2);
        due("* ahead of +", odds("2+3*2"), 8);
        due("brackets", odds("(2+3)*2"), 10);
        due("+ ahead of <", odds("5*(1+1<3)"), 5);
        due("=", odds("5*(w=7)"), 5);
        due(">", odds("5*(w>7)+1"), 1);
        due("<", odds("5*(w<7)+1"), 1);
        due("< ahead of &", odds("(1<2&3)+5"), 6);
        due("& ahead of |", odds("(1|0&0)+5"), 6);
        due("| gives 1", odds("(4|8)+5"), 6);
        due("| gives 0", odds("(0|0)+5"), 5);
        due("= gives 0", odds("(w=8)+5"), 5);
        due("> gives 1", odds("(w>6)+5"), 6);
        due("| behind ?", odds("1?0|1;5"), 1);
        due("brackets behind ?", odds("1?((((((5))))));7"), 5);
        due("& gives 1", odds("(4&8)+5"), 6);
        due("& gives 0", odds("(4&0)+5"), 5);
        due("!", odds("!0+!7+5"), 6);
        due("- ahead of *", odds("-2*-3"), 6);
        due("! ahead of +", odds("!1+5"), 5);
        due("less than 0", odds("-1"), 0);
        due("more than 12", odds("13"), 12);
        due("wraps", odds("7+(9999*9999*30<0)"), 8);
        due("wraps at the least", odds("(0-2048*1024*1024)/-1<0"), 1);
        due("the first line that counts", odds("0?3;p>100?4;5;6"), 5);
        due("a line with a first that is not 0", odds("0?3;-2?4;5"), 4);
        due("a line that counts with 0", odds("1?0;5"), 0);
        due("a line alone that is 0 counts", odds("0;5"), 0);
        due("no line counts", odds("0?9;0?8"), 0);
    }

    private static void later() {
        RefusedOnce x = land(3, 2, 20);
        x.mend(1, 2, 8);
        x.mend(2, 1, 20);
        // 0 to 1 whole: refused; 0 to 1 cut; 0 to 2 whole: can't be; 1 to 0 whole: taken.
        bytes(x, 0, 2, 3, 4, 20);
        due("0 of it", x.later(0, 0, 0, 0), 3);
        due("whole behind 1", x.later(0, 1, 0, 0), 2);
        due("cut behind 1", x.later(0, 1, 0, 1), 1);
        due("farthings behind 1", x.later(0, 1, 0, 2), 11);
        due("cut behind 2", x.later(0, 2, 0, 1), 0);
        due("cut of the other behind 2", x.later(0, 2, 1, 1), 1);
        due("what can't be is left out", x.later(0, 3, 0, 0), 2);
        due("all", x.later(0, 4, 0, 0), 3);
        due("more than there are", x.later(0, 20, 1, 0), 1);
        due("it is in thought", x.of(0, 0), 3);
        bytes(x, 1, 20, 22, 20);
        due("it ends with the same ones", x.later(1, 20, 1, 0), 1);
        bytes(x, 1, 20, -1, 20);
        due("it ends below 0", x.later(1, 20, 1, 0), 1);
        bytes(x, 1, 20, 60, 20);
        due("it ends with nobody", x.later(1, 20, 1, 0), 1);
        bytes(x, 1, 20, 26, 20);
        due("it ends with nobody as taker", x.later(1, 20, 1, 0), 1);
        bytes(x, 1, 20, 2, 20, 2, 20, 2, 20, 2, 20, 2, 20, 2, 20, 2, 20, 2, 20, 2, 20, 2, 20);
        x.mend(1, 2, 3);
        due("20 at most", x.later(1, 20, 1, 0), 2);
        due("n -1", x.later(0, -1, 0, 0), BAD);
        due("n 21", x.later(0, 21, 0, 0), BAD);
        due("one 3", x.later(0, 0, 3, 0), BAD);
        due("one -1", x.later(0, 0, -1, 0), BAD);
        due("what 3", x.later(0, 0, 0, 3), BAD);
        due("what -1", x.later(0, 0, 0, -1), BAD);
        due("shelf 6", x.later(6, 0, 0, 0), BAD);
        due("nothing", x.later(5, 0, 0, 0), -11);
        due("nothing, n 21", x.later(5, 21, 0, 0), BAD);
        x.row(5, 2, 3);
        due("ints", x.later(5, 0, 0, 0), -12);
        x.body(0);
        x.keep(5, 0);
        due("a body", x.later(5, 0, 0, 0), -12);
    }

    private static void evening() {
        RefusedOnce x = land(3, 2, 20);
        x.mend(1, 2, 8);
        x.mend(2, 1, 20);
        bytes(x, 0, 2, 3, 4, 20, 2, 24);
        due("refused", x.evening(0, 20, 0), 2);
        due("refused of 3", x.evening(0, 3, 0), 1);
        due("the first that can't be", x.evening(0, 20, 1), 2);
        due("of 2 there is none", x.evening(0, 2, 1), NOT);
        due("who", x.evening(0, 20, 2), 2);
        due("nobody", x.evening(0, 0, 2), 0);
        x.mend(1, 2, 5);
        due("below habit", x.evening(0, 1, 0), 0);
        x.mend(1, 2, 6);
        due("at habit", x.evening(0, 1, 0), 1);
        x.mend(0, 6, 0);
        due("habit 0", x.evening(0, 20, 2), 3);
        x.mend(0, 6, 12);
        due("habit 12", x.evening(0, 20, 0), 0);
        law(x, "w*3");
        bytes(x, 1, 2, 2);
        due("by the law as it is then", x.evening(1, 2, 0), 0);
        x.mend(0, 6, 9);
        due("by the law as it is then", x.evening(1, 2, 0), 1);
        due("n -1", x.evening(0, -1, 0), BAD);
        due("n 21", x.evening(0, 21, 0), BAD);
        due("what 3", x.evening(0, 0, 3), BAD);
        due("what -1", x.evening(0, 0, -1), BAD);
        due("shelf -1", x.evening(-1, 0, 0), BAD);
        due("nothing", x.evening(3, 0, 0), -11);
        x.row(3, 4, 3);
        due("booleans", x.evening(3, 0, 0), -12);
    }

    private static void round() {
        RefusedOnce x = land(2, 0, 0);
        x.mend(0, 1, 1);
        x.mend(1, 2, 9);
        // Both to who refuses: one cut coin helps once, whichever comes first.
        bytes(x, 0, 0, 1, 0, 1);
        due("fewest", x.round(0, -1), 1);
        due("the first by numbers", x.round(0, 0), 0);
        due("the second", x.round(0, 1), 1);
        due("there are not as many", x.round(0, 2), NOT);
        due("k most", x.round(0, MOST), NOT);
        due("k -2", x.round(0, -2), BAD);
        due("k least", x.round(0, LEAST), BAD);
        bytes(x, 0, 0, 1, 0, 2, 0, 2, 1, 0);
        due("fewest", x.round(0, -1), 0);
        due("a cut one to the proud one", x.round(0, 0), 1);
        due("a whole one", x.round(0, 1), 0);
        due("a whole one", x.round(0, 2), 0);
        due("what came goes on", x.round(0, 3), 1);
        bytes(x, 0, 0, 1, 0, 2, 0, 2, 0, 2);
        due("not all can", x.round(0, -1), NOT);
        due("not all can, k", x.round(0, 0), NOT);
        bytes(x, 1, 1, 2);
        due("not one can", x.round(1, -1), NOT);
        bytes(x, 1);
        due("an empty one", x.round(1, -1), 0);
        due("an empty one, k", x.round(1, 0), NOT);
        x.mend(2, 2, 5);
        bytes(x, 1, 0, 2);
        due("below habit", x.round(1, -1), 0);
        x.mend(0, 1, 0);
        x.mend(2, 2, 6);
        due("at habit", x.round(1, -1), 1);
        x.mend(0, 1, 1);
        x.mend(2, 2, 3);
        bytes(x, 1, 0, 2, 0);
        due("it ends where it lacks", x.round(1, 1), NOT);
        bytes(x, 1, 0, 2, 0, 0, 0, 2);
        due("it ends with the same", x.round(1, 1), NOT);
        bytes(x, 1, 0, 2, 0, 3, 0, 2);
        due("it ends with nobody", x.round(1, 1), NOT);
        bytes(x, 1, 0, 2, -1, 2, 0, 2);
        due("it ends below 0", x.round(1, 1), NOT);
        bytes(x, 1, 0, 2, 2, 0, 0, 2, 2, 0, 0, 2, 2, 0, 0, 2, 2, 0, 0, 2, 2, 0, 0, 2);
        due("10 at most", x.round(1, 9), 0);
        due("10 at most", x.round(1, 10), NOT);
        x = land(20, 0);
        x.mend(1, 2, 12);
        x.mend(1, 1, 20);
        bytes(x, 0, 0, 1);
        due("a refused one goes over only to who has fewer than 20", x.round(0, -1), NOT);
        x.mend(1, 1, 19);
        due("to who has 19", x.round(0, -1), 1);
        due("nothing", x.round(3, -1), -11);
        due("nothing, k -2", x.round(3, -2), BAD);
        x.row(3, 3, 3);
        due("longs", x.round(3, -1), -12);
        due("shelf 6", x.round(6, -1), BAD);
        due("it is in thought", x.of(0, 0), 20);
    }

    private static void cleanest() {
        RefusedOnce x = land(3, 0, 0);
        x.mend(0, 1, 1);
        bytes(x, 0, 0, 1, 0, 1);
        due("whole and cut", x.cleanest(0), 8);
        x.mend(0, 1, 2);
        due("cut ones alone", x.cleanest(0), 12);
        x.mend(0, 4, 0);
        due("notch 0", x.cleanest(0), 12);
        x.mend(0, 4, 3);
        bytes(x, 0, 0, 1, 1, 0);
        due("what comes back counts", x.cleanest(0), 18);
        x.mend(1, 0, 1);
        due("a whole one comes back for a cut one", x.cleanest(0), 19);
        x.mend(0, 2, 9);
        due("but he refuses it", x.cleanest(0), 18);
        bytes(x, 0, 2, 1);
        due("it can't be", x.cleanest(0), NOT);
        bytes(x, 0, 0, 2);
        due("one paying", x.cleanest(0), 15);
        bytes(x, 0);
        due("an empty one", x.cleanest(0), NOT);
        due("nothing", x.cleanest(4), -11);
        x.row(4, 1, 2);
        due("shorts", x.cleanest(4), -12);
        due("shelf -1", x.cleanest(-1), BAD);
        due("shelf 6", x.cleanest(6), BAD);
    }

    private static void pay() {
        RefusedOnce x = land(5, 20, 3);
        pay(x, 2, 0, 0, 1, 1);
        pay(x, 2, 0, 1, 0, 1);
        pay(x, 2, 1, 0, 3, 4);
        pay(x, 2, 1, 1, 1, 4);
        pay(x, 2, 2, 1, 3, 8);
        pay(x, 2, 8, 5, 1, 1024);
        pay(x, 2, 8, 6, 0, 1);
        pay(x, 1, 8, 0, 1, 1);
        x.mend(0, 1, 19);
        // Once refused he has 20 notched ones, so that no more can be offered.
        pay(x, 2, 3, 1, 37, 64);
        pay(x, 2, 3, 0, 27, 64);
        law(x, "w");
        x.mend(0, 1, 0);
        pay(x, 2, 2, 0, 1, 2);
        pay(x, 2, 2, 1, 7, 16);
        due("the same", x.pay(0, 0, 0, 0), NO);
        due("nobody", x.pay(3, 0, 0, 0), NO);
        due("ab -1", x.pay(-1, 0, 0, 0), NO);
        due("n 9", x.pay(2, 9, 0, 0), NO);
        due("n -1", x.pay(2, -1, 0, 0), NO);
        due("r 9", x.pay(2, 0, 9, 0), NO);
        due("r -1", x.pay(2, 0, -1, 0), NO);
        due("part 2", x.pay(2, 0, 0, 2), NO);
        due("part -1", x.pay(2, 0, 0, -1), NO);
    }

    private static void mean() {
        RefusedOnce x = land(5, 20, 3);
        mean(x, 2, 0, 0, 1);
        mean(x, 2, 1, 1, 4);
        mean(x, 2, 4, 1, 1);
        mean(x, 2, 8, 5, 4);
        mean(x, 1, 8, 0, 1);
        law(x, "c+w");
        mean(x, 2, 2, 9, 16);
        law(x, "12");
        mean(x, 2, 8, 5, 1);
        due("the same", x.mean(22, 0, 0), NO);
        due("nobody", x.mean(30, 0, 0), NO);
        due("n 9", x.mean(2, 9, 0), NO);
        due("n -1", x.mean(2, -1, 0), NO);
        due("part 2", x.mean(2, 0, 2), NO);
    }

    private static void stays() {
        RefusedOnce x = new RefusedOnce();
        stays(x, 0, 1, 1);
        stays(x, 2, 1, 1);
        x = land(1, 0);
        stays(x, 0, 1, 1);
        stays(x, 1, 3, 4);
        stays(x, 2, 9, 16);
        x.mend(1, 2, 6);
        // To 1 by half; back without less: 3 - 6 / 4 = 2 of twelve.
        stays(x, 1, 1, 2);
        stays(x, 2, 5, 12);
        x = land(1, 1, 0);
        x.mend(2, 2, 12);
        // Four may be: 0 to 1, 1 to 0 (9 of 12), 0 to 2, 1 to 2 (none).
        stays(x, 1, 3, 8);
        // Behind 0 to 1 or back there are two: one of 9, one of none.
        stays(x, 2, 9, 64);
        x = land(20, 20);
        stays(x, 2, 1, 1);
        x = land(1, 19);
        // 0 to 1, and none of 0 then, but 1 has 20 and may offer; 1 to 0.
        stays(x, 1, 3, 4);
        x.mend(1, 1, 20);
        // 1 may offer none, so that behind 0 to 1 nothing may be offered: it stays.
        stays(x, 1, 3, 4);
        stays(x, 2, 3, 4);
        due("n 3", x.stays(3, 0), NO);
        due("n -1", x.stays(-1, 0), NO);
        due("part 2", x.stays(0, 2), NO);
        due("part -1", x.stays(0, -1), NO);
    }

    private static void hands() {
        RefusedOnce x = land(0, 0, 0, 0);
        x.mend(0, 2, 12);
        x.mend(1, 2, 5);
        x.mend(2, 2, 4);
        bytes(x, 0, 0, 1, 2, 3, 3);
        // 1: 5 - 3, 2: 4 - 2, 3: 3 - 1, 3: 3.
        due("best", x.hands(0, 0), 3);
        due("in which place", x.hands(0, 1), 4);
        x.mend(0, 4, 4);
        due("best without loss", x.hands(0, 0), 5);
        due("in which place", x.hands(0, 1), 1);
        x.mend(1, 2, 4);
        due("of like ones the first", x.hands(0, 1), 1);
        x.mend(0, 4, 0);
        bytes(x, 0, 0, 3, 3, 1, 2);
        due("by notch 0", x.hands(0, 0), 4);
        due("by notch 0", x.hands(0, 1), 4);
        bytes(x, 0, 0, 3, 3, 3, 3, 3, 0);
        due("the first one may not, the last one may", x.hands(0, 0), 12);
        bytes(x, 0, 0);
        due("the first one may not", x.hands(0, 0), 0);
        x.mend(3, 2, 0);
        bytes(x, 0, 0, 3, 3);
        due("none says no", x.hands(0, 0), 0);
        due("none says no", x.hands(0, 1), 0);
        bytes(x, 0, 3, 3, 4, 0);
        due("it ends with nobody", x.hands(0, 0), 0);
        bytes(x, 0, 3, 3, -1, 0);
        due("it ends below 0", x.hands(0, 0), 0);
        bytes(x, 0, 3, 3, 3, 3, 3, 3, 3, 3, 3, 3, 0);
        due("10 at most", x.hands(0, 0), 0);
        bytes(x, 0, 3, 3, 3, 3, 3, 3, 3, 3, 3, 0, 3);
        due("the tenth", x.hands(0, 1), 9);
        bytes(x, 0);
        due("an empty row", x.hands(0, 0), 0);
        due("what 2", x.hands(0, 2), VOID);
        due("what -1", x.hands(0, -1), VOID);
        due("shelf 6", x.hands(6, 0), VOID);
        due("shelf -1", x.hands(-1, 0), VOID);
        due("nothing", x.hands(5, 0), VOID);
        x.row(5, 1, 2);
        due("shorts", x.hands(5, 0), VOID);
    }

    private static void test() {
        RefusedOnce x = land(0);
        x.mend(0, 1, 10);
        x.mend(0, 3, 2);
        test(x, 0, 0, 0, 1);
        test(x, 0, 1, 1, 5);
        test(x, 0, 2, 17, 45);
        test(x, 0, 8, 44, 45);
        test(x, 0, 9, 1, 1);
        test(x, 0, 20, 1, 1);
        x.mend(0, 3, 0);
        test(x, 0, 20, 0, 1);
        x.mend(0, 3, 20);
        test(x, 0, 0, 0, 1);
        test(x, 0, 1, 1, 1);
        x.mend(0, 1, 0);
        test(x, 0, 5, 0, 1);
        x.mend(0, 1, 20);
        x.mend(0, 3, 7);
        // 1 - C(13, 10) / C(20, 10) = 1 - 286 / 184756.
        test(x, 0, 10, 645, 646);
        due("t 21", x.test(0, 21, 0), NO);
        due("t -1", x.test(0, -1, 0), NO);
        due("nobody", x.test(1, 0, 0), NO);
        due("one -1", x.test(-1, 0, 0), NO);
        due("part 2", x.test(0, 0, 2), NO);
    }

    private static void enough() {
        RefusedOnce x = land(0);
        x.mend(0, 1, 10);
        x.mend(0, 3, 2);
        due("by 0", x.enough(0, 0), 0);
        due("by 1", x.enough(0, 1), 1);
        due("by 2", x.enough(0, 2), 1);
        due("by 3", x.enough(0, 3), 2);
        due("by 4", x.enough(0, 4), 2);
        due("by 5", x.enough(0, 5), 3);
        due("by 12", x.enough(0, 12), 9);
        x.mend(0, 3, 0);
        due("none is forged", x.enough(0, 1), NOT);
        due("by 0", x.enough(0, 0), 0);
        x.mend(0, 3, 5);
        x.mend(0, 1, 0);
        due("none is cut", x.enough(0, 1), NOT);
        x.mend(0, 1, 20);
        x.mend(0, 3, 1);
        due("all must be looked at", x.enough(0, 12), 20);
        due("x 13", x.enough(0, 13), BAD);
        due("x -1", x.enough(0, -1), BAD);
        due("nobody", x.enough(1, 1), BAD);
    }

    private static void honest() {
        RefusedOnce x = land(0);
        x.mend(0, 1, 10);
        x.mend(0, 3, 4);
        honest(x, 0, 1, 0, 1);
        honest(x, 0, 11, 2, 5);
        // Of 3: two C(4, 2) * 6 = 36, three 4, of C(10, 3) = 120.
        honest(x, 0, 32, 1, 3);
        honest(x, 0, 33, 1, 30);
        honest(x, 0, 34, 0, 1);
        honest(x, 0, 204, 1, 1);
        honest(x, 0, 205, 0, 1);
        honest(x, 0, 81, 1, 1);
        honest(x, 0, 9, 0, 1);
        due("m 0", x.honest(0, 30, 0), NO);
        due("tm 0", x.honest(0, 0, 0), NO);
        due("t 21", x.honest(0, 211, 0), NO);
        due("tm -1", x.honest(0, -1, 0), NO);
        due("tm -11", x.honest(0, -11, 0), NO);
        due("tm most", x.honest(0, MOST, 0), NO);
        due("nobody", x.honest(1, 11, 0), NO);
        due("part 2", x.honest(0, 11, 2), NO);
    }

    private static void dowry() {
        RefusedOnce x = land(5, 0, 7, 2);
        due("of none", x.dowry(0, 0), 0);
        due("0 coins", x.dowry(15, 0), 0);
        due("the last one keeps some", x.dowry(15, 6), 1);
        due("one keeps some", x.dowry(15, 4), 0);
        due("just all of one", x.dowry(15, 5), 1);
        due("two", x.dowry(15, 12), 5);
        due("who has none gives none", x.dowry(15, 14), 13);
        due("not enough", x.dowry(15, 15), NOT);
        due("of some", x.dowry(12, 9), 12);
        due("of some, not enough", x.dowry(12, 10), NOT);
        x.mend(1, 0, 1);
        due("who has one coin gives all", x.dowry(2, 1), 2);
        x.mend(1, 0, 0);
        due("of none, one coin", x.dowry(0, 1), NOT);
        due("n 99", x.dowry(15, 99), NOT);
        due("n 100", x.dowry(15, 100), BAD);
        due("n -1", x.dowry(15, -1), BAD);
        due("set 16", x.dowry(16, 1), BAD);
        due("set -1", x.dowry(-1, 1), BAD);
        due("set least", x.dowry(LEAST, 1), BAD);
        due("in thought", x.of(0, 0), 5);
        x = land(20, 20, 20, 20, 20, 20);
        due("of all", x.dowry(63, 99), 15);
    }

    private static void richest() {
        RefusedOnce x = land(5, 3, 4);
        x.mend(1, 1, 3);
        x.mend(2, 1, 1);
        // 20 against 12 + 3 n and 16 + n: till notch 2, and less than 21, 24.
        due("0", x.richest(0), 7);
        due("1", x.richest(1), 24);
        due("2", x.richest(2), 0);
        x = land(3, 3);
        due("of like ones the least", x.richest(0), 31);
        due("of like ones the other", x.richest(1), 0);
        x.mend(1, 1, 1);
        due("but by notch 0", x.richest(0), 1);
        due("from notch 1 on", x.richest(1), 30);
        due("nobody", x.richest(2), BAD);
        due("-1", x.richest(-1), BAD);
    }

    private static void behind() {
        RefusedOnce x = land(3, 2);
        // 0 to 1 whole, twice; 1 to 0 cut can't be unless 1 has one; 1 to 0 whole.
        bytes(x, 0, 2, 2, 20);
        bytes(x, 1);
        due("any: ways", x.behind(0, 1, 0), 8);
        due("any: fewest", x.behind(0, 1, 1), 0);
        due("any: which", x.behind(0, 1, 2), 0);
        due("any: certain", x.behind(0, 1, 3), 0);
        bytes(x, 1, 1, 1, 3, 0);
        // One of the first two refused; the third taken would give 0 a whole one: 3 - 2 + 1.
        due("none: ways", x.behind(0, 1, 0), 0);
        due("none: fewest", x.behind(0, 1, 1), NOT);
        due("none: which", x.behind(0, 1, 2), NOT);
        due("none: certain", x.behind(0, 1, 3), 0);
        bytes(x, 1, 1, 1, 2, 1);
        due("two ways", x.behind(0, 1, 0), 2);
        due("fewest", x.behind(0, 1, 1), 2);
        due("of like ones the least", x.behind(0, 1, 2), 5);
        due("the third is certain", x.behind(0, 1, 3), 4);
        bytes(x, 1, 1, 1);
        due("what lacks is any", x.behind(0, 1, 0), 2);
        bytes(x, 1, 1);
        due("the third refused, the others any", x.behind(0, 1, 0), 4);
        due("certain", x.behind(0, 1, 3), 4);
        bytes(x, 1, 1, 1, 2, 1, 9, 9);
        due("of nobody nothing is told", x.behind(0, 1, 0), 2);
        bytes(x, 1, -1);
        due("what nobody has", x.behind(0, 1, 0), 0);
        bytes(x, 1, 21);
        due("what nobody has", x.behind(0, 1, 0), 0);
        bytes(x, 0, 3, 2);
        bytes(x, 1);
        due("what can't be", x.behind(0, 1, 0), 0);
        x.mend(0, 1, 1);
        due("a cut one", x.behind(0, 1, 0), 2);
        bytes(x, 1, 2, 1);
        due("bits by places", x.behind(0, 1, 2), 2);
        bytes(x, 0, 2, 3, 3);
        bytes(x, 1);
        due("what can't be in one way", x.behind(0, 1, 0), 1);
        due("so that it is certain", x.behind(0, 1, 3), 1);
        bytes(x, 0);
        due("an empty one", x.behind(0, 1, 0), 1);
        bytes(x, 1, 4);
        due("an empty one, told otherwise", x.behind(0, 1, 0), 0);
        due("what 4", x.behind(0, 1, 4), BAD);
        due("what -1", x.behind(0, 1, -1), BAD);
        due("evening 6", x.behind(6, 1, 0), BAD);
        due("told 6", x.behind(0, 6, 0), BAD);
        due("nothing and a wrong shelf", x.behind(5, 6, 0), BAD);
        due("no evening", x.behind(5, 1, 0), -11);
        due("nothing told", x.behind(0, 5, 0), -11);
        x.row(2, 1, 2);
        due("shorts and nothing", x.behind(2, 5, 0), -12);
        due("nothing and shorts", x.behind(5, 2, 0), -11);
        due("told shorts", x.behind(0, 2, 0), -12);
    }

    private static void behindLong() {
        RefusedOnce x = land(20, 0, 20, 0);
        int[] offers = new int[20];
        for (int i = 0; i < 20; i++) offers[i] = i % 2 == 0 ? 2 : 46;
        bytes(x, 0, offers);
        bytes(x, 1);
        due("a million ways", x.behind(0, 1, 0), 1 << 20);
        bytes(x, 1, 10, 5, 5, 0, 10, 10, 0, 0);
        // Of ten to 1 five are refused, of ten to 3 all.
        due("252 ways", x.behind(0, 1, 0), 252);
        due("fewest", x.behind(0, 1, 1), 15);
        due("certain", x.behind(0, 1, 3), 0xaaaaa);
        due("which", x.behind(0, 1, 2), 0xaaaaa | 0x155);
    }

    private static void drawn() {
        RefusedOnce x = new RefusedOnce();
        due("nobody", x.drawn(5, 101, 0), 0);
        x.person(7);
        due("one", x.drawn(5, 330, 0), 21);
        due("one", x.drawn(5, 330, 1), 0);
        x = land(5, 4, 6);
        x.mend(1, 2, 9);
        for (int what = 0; what < 2; what++) {
            for (int seed : new int[] {0, 1, -1, LEAST, MOST, 123456789}) {
                due("seed " + seed, x.drawn(seed, 312, what), byHand(seed, 3, 12, what));
            }
        }
        due("30 of 30", x.drawn(9, 3030, 1), byHand(9, 30, 30, 1));
        due("n 31", x.drawn(1, 3101, 0), BAD);
        due("n 0", x.drawn(1, 1, 0), BAD);
        due("m 0", x.drawn(1, 100, 0), BAD);
        due("m 31", x.drawn(1, 131, 0), BAD);
        due("nm -101", x.drawn(1, -101, 0), BAD);
        due("nm most", x.drawn(1, MOST, 0), BAD);
        due("what 2", x.drawn(1, 101, 2), BAD);
        due("what -1", x.drawn(1, 101, -1), BAD);
        due("in thought", x.count(1), 15);
    }

    /** Of three with 5, 4, 6 whole coins and prides 3, 9, 3, without a text. */
    private static int byHand(int seed, int n, int m, int what) {
        int[] pride = {3, 9, 3};
        int z = seed, whole = 0, refused = 0;
        for (int i = 0; i < n; i++) {
            int[] w = {5, 4, 6}, c = new int[3];
            for (int j = 0; j < m; j++) {
                z = z * 1103515245 + 12345;
                int by = (z >>> 8) % 3, to = (z >>> 12) % 3;
                if (by == to || w[by] == 0 || w[to] == 20 || c[by] == 20) continue;
                w[by]--;
                boolean no = (z >>> 20) % 12 < pride[to] - pride[by] / 4;
                if (no) c[by]++;
                else w[to]++;
                if (no) refused++;
            }
            whole += w[0] + w[1] + w[2];
        }
        return what == 0 ? whole : refused;
    }

    private static void offer() {
        RefusedOnce x = land(2, 20, 3);
        x.mend(0, 3, 1);
        due("to who has 20", x.offer(1, 0), STATE);
        due("to who has 20, refused", x.offer(1, 1), STATE);
        due("a cut one he has not", x.offer(1, 2), STATE);
        due("taken", x.offer(2, 0), 2);
        due("whole of the giver", x.of(0, 0), 1);
        due("whole of the taker", x.of(2, 0), 4);
        due("refused", x.offer(2, 1), 0);
        due("whole of the giver", x.of(0, 0), 0);
        due("cut of the giver", x.of(0, 1), 1);
        due("forged ones count", x.of(0, 8), 1);
        due("he has none", x.offer(2, 0), STATE);
        due("he has none, refused", x.offer(2, 1), STATE);
        due("a cut one", x.offer(2, 2), 2);
        due("forged ones stay", x.of(0, 8), 0);
        due("forged as told", x.of(0, 3), 1);
        due("forged does not go over", x.of(2, 8), 0);
        due("cut of the taker", x.of(2, 1), 1);
        x.mend(2, 1, 20);
        due("who has 20 cut may not offer", x.offer(20, 0), STATE);
        due("nor refused", x.offer(20, 1), STATE);
        x.mend(0, 1, 1);
        due("a cut one to who has 20", x.offer(2, 2), STATE);
        due("a cut one by him", x.offer(20, 2), 0);
        due("offers led", x.led(0), 4);
        due("kind 3", x.offer(20, 3), BAD);
        due("kind -1", x.offer(20, -1), BAD);
        due("the same", x.offer(22, 0), BAD);
        due("nobody", x.offer(3, 0), BAD);
        due("ab -1", x.offer(-1, 0), BAD);
    }

    private static void mint() {
        RefusedOnce x = land(19, 3);
        due("no cut one", x.mint(0), STATE);
        x.mend(0, 1, 2);
        due("minted", x.mint(0), 20);
        due("whole", x.of(0, 0), 20);
        due("cut", x.of(0, 1), 1);
        due("he has 20", x.mint(0), STATE);
        due("nobody", x.mint(2), BAD);
        due("-1", x.mint(-1), BAD);
        due("led", x.led(2), 1);
        due("the other one", x.mint(1), STATE);
    }

    private static void hour() {
        RefusedOnce x = new RefusedOnce();
        for (int i = 1; i <= 11; i++) due("hour()", x.hour(), i);
        due("behind 11", x.hour(), 0);
        x.mend(0, 5, 7);
        due("hour()", x.hour(), 8);
        due("of(0, 5)", x.of(0, 5), 8);
        due("led", x.led(3), 13);
    }

    private static void led() {
        RefusedOnce x = land(3, 3);
        x.offer(1, 0);
        x.offer(1, 1);
        x.offer(1, 2);
        x.offer(1, 2);
        x.mint(1);
        x.hour();
        x.hour();
        due("offers", x.led(0), 3);
        due("refused", x.led(1), 1);
        due("minted", x.led(2), 1);
        due("hours", x.led(3), 2);
        due("4", x.led(4), BAD);
        due("-1", x.led(-1), BAD);
    }

    private static void image() {
        RefusedOnce x = land(3, 3);
        due("image()", x.image(), 0);
        x.offer(1, 0);
        due("image()", x.image(), 1);
        x.offer(1, 0);
        due("the latest one counts", x.back(), 1);
        due("of(0, 0)", x.of(0, 0), 2);
    }

    private static void back() {
        RefusedOnce x = land(3, 4);
        due("there is none", x.back(), STATE);
        x.mend(0, 2, 8);
        x.offer(10, 1);
        x.hour();
        x.image();
        x.person(9);
        x.offer(1, 0);
        x.offer(21, 0);
        x.mint(1);
        x.hour();
        x.mend(0, 2, 5);
        x.mend(0, 6, 2);
        due("back()", x.back(), 1);
        due("whole", x.of(0, 0), 3);
        due("whole", x.of(1, 0), 3);
        due("cut", x.of(1, 1), 1);
        due("hour", x.of(0, 5), 1);
        due("led 1", x.led(1), 1);
        due("led 2", x.led(2), 0);
        due("led 3", x.led(3), 1);
        due("pride stays", x.of(0, 2), 5);
        due("habit stays", x.of(0, 6), 2);
        due("who came since stays", x.of(2, 0), 8);
        due("changes stay", x.count(4), 3);
        x.offer(1, 0);
        due("again", x.back(), 1);
        due("whole", x.of(0, 0), 3);
    }

    private static void undo() {
        RefusedOnce x = land(3, 4);
        due("none", x.undo(), STATE);
        x.mend(0, 0, 9);
        x.mend(1, 1, 2);
        x.mend(0, 4, 1);
        x.mend(0, 4, 1);
        due("three, one less", x.undo(), 2);
        due("notch", x.of(0, 4), 3);
        x.offer(1, 0);
        due("two less", x.undo(), 1);
        due("cut", x.of(1, 1), 0);
        due("all", x.undo(), 0);
        due("whole becomes what it was", x.of(0, 0), 3);
        due("none", x.undo(), STATE);
        due("the offer stands", x.of(1, 0), 5);
        for (int i = 0; i < 45; i++) x.mend(0, 2, i % 2 == 0 ? 7 : 8);
        due("40 are kept", x.count(4), 40);
        for (int i = 39; i >= 0; i--) due("undo()", x.undo(), i);
        due("none", x.undo(), STATE);
        due("what the fifth one told", x.of(0, 2), 7);
    }

    private static void redo() {
        RefusedOnce x = land(3, 4);
        due("none", x.redo(), STATE);
        x.mend(0, 0, 9);
        due("none", x.redo(), STATE);
        x.mend(0, 5, 2);
        x.mend(0, 6, 3);
        x.undo();
        x.undo();
        due("hour", x.of(0, 5), 0);
        x.hour();
        due("two, one less", x.redo(), 1);
        due("hour", x.of(0, 5), 2);
        x.mend(0, 5, 2);
        due("the same number is none", x.redo(), 0);
        due("habit", x.of(0, 6), 3);
        due("none", x.redo(), STATE);
        due("changes", x.count(4), 3);
        x.undo();
        x.undo();
        x.mend(1, 0, 8);
        due("another came behind", x.redo(), STATE);
        due("changes", x.count(4), 2);
        x.undo();
        x.mend(9, 0, 8);
        due("a refused one is none", x.redo(), 0);
        due("whole", x.of(1, 0), 8);
    }

    private static void body() {
        RefusedOnce x = new RefusedOnce();
        due("8", x.body(8), BAD);
        due("-1", x.body(-1), BAD);
        for (int i = 0; i < 50; i++) due("body()", x.body(i % 8), i);
        due("the 51st", x.body(0), FULL);
        due("the 51st, wrong too", x.body(8), BAD);
        due("count(5)", x.count(5), 50);
    }

    private static void trace(String act, RefusedOnce x, int... bodies) {
        due(act + ": how many", x.count(6), bodies.length);
        for (int i = 0; i < bodies.length; i++) due(act + ": trace " + i, x.trace(i), bodies[i]);
        due(act + ": trace behind", x.trace(bodies.length), BAD);
    }

    private static void act() {
        RefusedOnce x = new RefusedOnce();
        for (int kind = 0; kind < 8; kind++) x.body(kind);
        due("NO offers", x.act(0, 0, 7), 7);
        trace("NO offers", x, 1);
        due("NO notches", x.act(0, 1, 7), 14);
        trace("NO notches", x, 10, 1);
        due("NO takes", x.act(0, 2, 7), 7);
        trace("NO takes", x, 11);
        due("NO tells", x.act(0, 3, 7), 13);
        trace("NO tells", x, 2, 10, 1, 11);
        due("FRIEND offers", x.act(1, 0, 7), 11);
        trace("FRIEND offers", x, 20, 1);
        due("FRIEND notches", x.act(1, 1, 7), 22);
        due("BEGGAR notches", x.act(2, 1, 7), -18);
        trace("BEGGAR notches", x, 30, 10, 1);
        due("CHILD takes", x.act(3, 2, 7), 12);
        trace("CHILD takes", x, 40, 11);
        due("CHILD notches", x.act(3, 1, 7), -22);
        trace("CHILD notches", x, 41, 30, 10, 1);
        // notches 2 * (7 + 4 + 3), takes 1 ^ 4.
        due("BRIDE tells", x.act(4, 3, 7), 28 - 5 ^ 5);
        trace("BRIDE tells", x, 50, 2, 10, 20, 1, 11);
        // 3 * (7 ^ 5) - (2 + 5).
        due("RICH takes", x.act(5, 2, 7), -1);
        trace("RICH takes", x, 60, 40, 11, 1);
        // notches -2 * (8 + 5), takes 3 * (1 ^ 5) - 7, and one.
        due("RICH tells", x.act(5, 3, 7), -26 - 5 + 1);
        trace("RICH tells", x, 61, 2, 41, 30, 10, 1, 60, 40, 11, 1);
        due("HALF offers", x.act(6, 0, 7), 26);
        trace("HALF offers", x, 70, 1);
        due("MINT offers", x.act(7, 0, 7), 27);
        trace("MINT offers", x, 81, 70, 1);
        // 2 * 27 + (2 ^ 7).
        due("MINT notches", x.act(7, 1, 7), 59);
        trace("MINT notches", x, 80, 10, 81, 70, 1, 11);
        due("MINT tells", x.act(7, 3, 7), 59 - 6);
        due("it wraps", x.act(6, 0, MOST), (MOST + 6) * 2);
        due("no such act", x.act(0, 4, 7), 0);
        trace("no such act", x);
        x.act(0, 0, 7);
        due("act -1", x.act(0, -1, 7), 0);
        trace("act -1", x);
        x.act(0, 0, 7);
        due("no such body", x.act(8, 0, 7), 0);
        trace("no such body", x);
        due("body -1", x.act(-1, 0, 7), 0);
        due("body most", x.act(MOST, 3, 7), 0);
    }

    private static void trace() {
        RefusedOnce x = new RefusedOnce();
        x.body(5);
        due("ahead of any", x.trace(0), BAD);
        x.act(0, 3, 1);
        due("the first", x.trace(0), 61);
        due("the last", x.trace(9), 1);
        due("behind it", x.trace(10), BAD);
        due("-1", x.trace(-1), BAD);
        due("24", x.trace(24), BAD);
        due("most", x.trace(MOST), BAD);
        x.act(0, 0, 1);
        due("the latest alone", x.trace(1), BAD);
    }

    private static void keep() {
        RefusedOnce x = new RefusedOnce();
        x.body(3);
        due("a body", x.keep(0, 0), 1);
        due("is there", x.taken(0, 0), 3);
        due("no such body", x.keep(0, 1), BAD);
        due("-2", x.keep(0, -2), BAD);
        due("shelf 6", x.keep(6, 0), BAD);
        due("shelf -1", x.keep(-1, -1), BAD);
        due("is there still", x.taken(0, 3), 3);
        due("nothing", x.keep(0, -1), 1);
        due("nothing is there", x.taken(0, 0), -11);
        x.row(0, 0, 5);
        due("over a row", x.keep(0, 0), 1);
        due("no row", x.put(0, 0, 1), -12);
    }

    private static void row() {
        RefusedOnce x = new RefusedOnce();
        for (int sort = 0; sort <= 4; sort++) {
            due("row()", x.row(sort, sort, 60), 1);
            due("0 at first", x.element(sort, 59), 0);
            due("the last place", x.put(sort, 59, 1), 1);
            due("no more", x.put(sort, 60, 1), -13);
        }
        due("again", x.row(0, 0, 60), 1);
        due("0 again", x.element(0, 59), 0);
        due("of none", x.row(1, 1, 0), 1);
        due("no place", x.put(1, 0, 0), -13);
        due("n 61", x.row(2, 2, 61), BAD);
        due("n -1", x.row(2, 2, -1), -14);
        due("n least", x.row(2, 2, LEAST), -14);
        due("sort 5", x.row(2, 5, -1), BAD);
        due("sort -1", x.row(2, -1, 1), BAD);
        due("shelf 6", x.row(6, 0, -1), BAD);
        due("is as it was", x.element(2, 59), 1);
    }

    private static void put() {
        RefusedOnce x = new RefusedOnce();
        long[] values = {0x123456789abcdef0L, -1, 255, 128, 65535, 32768, 1L << 31, 1L << 32, Long.MIN_VALUE, 2};
        for (int sort = 0; sort <= 4; sort++) x.row(sort, sort, 3);
        for (long v : values) {
            for (int sort = 0; sort <= 4; sort++) due("put()", x.put(sort, 1, v), 1);
            due("a byte", x.element(0, 1), (byte) v);
            due("a short", x.element(1, 1), (short) v);
            due("an int", x.element(2, 1), (int) v);
            due("a long", x.element(3, 1), v);
            due("a boolean", x.element(4, 1), v == 0 ? 0 : 1);
        }
        x.put(4, 1, 0);
        due("false", x.element(4, 1), 0);
        due("the others are as they were", x.element(3, 0), 0);
        due("i 3", x.put(0, 3, 1), -13);
        due("i -1", x.put(0, -1, 1), -13);
        due("i least", x.put(0, LEAST, 1), -13);
        due("nothing", x.put(5, 0, 1), -11);
        x.body(0);
        x.keep(5, 0);
        due("a body", x.put(5, 0, 1), -12);
        due("shelf 6", x.put(6, 0, 1), BAD);
        due("shelf -1", x.put(-1, 0, 1), BAD);
    }

    private static void element() {
        RefusedOnce x = new RefusedOnce();
        due("nothing", x.element(0, 0), NO);
        due("nothing, i -1", x.element(0, -1), NO);
        x.body(0);
        x.keep(0, 0);
        due("a body", x.element(0, 0), NO);
        x.row(0, 3, 2);
        x.put(0, 1, Long.MAX_VALUE);
        due("it", x.element(0, 1), Long.MAX_VALUE);
        due("0 at first", x.element(0, 0), 0);
        due("i 2", x.element(0, 2), NO);
        due("i -1", x.element(0, -1), NO);
        due("i most", x.element(0, MOST), NO);
        due("i least", x.element(0, Integer.MIN_VALUE), NO);
        for (int v = -14; v <= 0; v++) {
            x.put(0, 0, v);
            due("an element " + v, x.element(0, 0), v);
        }
        x.row(0, 3, 0);
        due("a row of none", x.element(0, 0), NO);
        x.keep(0, -1);
        due("nothing again", x.element(0, 0), NO);
        due("shelf 6", x.element(6, 0), NO);
        due("shelf -1", x.element(-1, 0), NO);
    }

    private static void shift() {
        RefusedOnce x = new RefusedOnce();
        bytes(x, 0, 1, 2, 3, 4, 5);
        bytes(x, 1, 9, 9, 9);
        due("to another", x.shift(0, 1, 1, 0, 2), 2);
        due("0", x.element(1, 0), 2);
        due("1", x.element(1, 1), 3);
        due("2", x.element(1, 2), 9);
        due("on itself, later", x.shift(0, 0, 0, 1, 4), 4);
        int[] then = {1, 1, 2, 3, 4};
        for (int i = 0; i < 5; i++) due("element " + i, x.element(0, i), then[i]);
        due("on itself, earlier", x.shift(0, 1, 0, 0, 4), 4);
        int[] now = {1, 2, 3, 4, 4};
        for (int i = 0; i < 5; i++) due("element " + i, x.element(0, i), now[i]);
        due("none, at the end", x.shift(0, 5, 1, 3, 0), 0);
        due("none, behind the end", x.shift(0, 6, 1, 0, 0), -13);
        due("too many", x.shift(0, 3, 1, 0, 3), -13);
        due("too many for the other", x.shift(0, 0, 1, 1, 3), -13);
        due("n -1", x.shift(0, 0, 1, 0, -1), -13);
        due("n most", x.shift(0, 1, 1, 1, MOST), -13);
        due("i -1", x.shift(0, -1, 1, 0, 1), -13);
        due("j -1", x.shift(0, 0, 1, -1, 1), -13);
        due("i most", x.shift(0, MOST, 1, 0, 1), -13);
        due("to nothing", x.shift(0, 0, 2, 0, -1), -11);
        due("from nothing", x.shift(2, 0, 0, 0, 1), -11);
        x.body(0);
        x.keep(3, 0);
        due("from a body to nothing", x.shift(3, 0, 2, 0, 1), -11);
        due("from a body", x.shift(3, 0, 0, 0, 1), -12);
        due("to a body", x.shift(0, 0, 3, 0, -1), -12);
        due("body to body", x.shift(3, 0, 3, 0, 0), -12);
        x.row(2, 4, 5);
        due("to booleans", x.shift(0, 0, 2, 0, 1), -12);
        due("shelf 6", x.shift(6, 0, 0, 0, 1), BAD);
        due("other 6", x.shift(0, 0, 6, 0, 1), BAD);
        due("shelf -1 and nothing", x.shift(4, 0, -1, 0, 1), BAD);
    }

    private static void taken() {
        RefusedOnce x = new RefusedOnce();
        int[][] under = {{0}, {0, 1}, {0, 2}, {0, 2, 3}, {0, 1, 4}, {0, 2, 3, 5}, {0, 6}, {0, 6, 7}};
        for (int kind = 0; kind < 8; kind++) {
            x.body(kind);
            x.keep(0, kind);
            for (int k = 0; k < 8; k++) {
                int want = -12;
                for (int each : under[kind]) if (each == k) want = kind;
                due(kind + " taken for " + k, x.taken(0, k), want);
            }
        }
        due("k 8", x.taken(0, 8), BAD);
        due("k -1", x.taken(0, -1), BAD);
        due("shelf 6", x.taken(6, 0), BAD);
        due("shelf -1", x.taken(-1, 0), BAD);
        due("nothing", x.taken(1, 0), -11);
        due("nothing, k 8", x.taken(1, 8), BAD);
        x.row(1, 0, 3);
        due("a row", x.taken(1, 0), -12);
    }

    private static void count() {
        RefusedOnce x = land(3, 4, 5);
        x.mend(0, 1, 2);
        x.mend(2, 1, 3);
        x.feed('1');
        x.body(5);
        x.body(5);
        x.act(0, 3, 1);
        due("people", x.count(0), 3);
        due("whole", x.count(1), 12);
        due("cut", x.count(2), 5);
        due("tape", x.count(3), 1);
        due("changes", x.count(4), 2);
        due("bodies", x.count(5), 2);
        due("ran", x.count(6), 10);
        due("7", x.count(7), BAD);
        due("-1", x.count(-1), BAD);
        x.offer(1, 1);
        due("whole", x.count(1), 11);
        due("cut", x.count(2), 6);
    }

    /** What is refused changes nothing: the run goes on as if it had not been asked. */
    private static void refusedChangesNothing() {
        RefusedOnce x = land(3, 4);
        x.mend(0, 0, 9);
        x.undo();
        x.mend(0, 0, 21);
        x.mend(0, 7, 1);
        x.person(-1);
        x.offer(1, 7);
        x.offer(1, 2);
        x.mint(0);
        due("it may be done again still", x.redo(), 0);
        due("led", x.led(0), 0);
        due("people", x.count(0), 2);
    }

    public static void main(String[] args) {
        Runnable[] all = {PromisesTest::aNewObject, PromisesTest::person, PromisesTest::people, PromisesTest::mend,
            PromisesTest::of, PromisesTest::feed, PromisesTest::law, PromisesTest::odds, PromisesTest::later,
            PromisesTest::evening, PromisesTest::round, PromisesTest::cleanest, PromisesTest::pay, PromisesTest::mean,
            PromisesTest::stays, PromisesTest::hands, PromisesTest::test, PromisesTest::enough, PromisesTest::honest,
            PromisesTest::dowry, PromisesTest::richest, PromisesTest::behind, PromisesTest::drawn, PromisesTest::offer,
            PromisesTest::mint, PromisesTest::hour, PromisesTest::led, PromisesTest::image, PromisesTest::back,
            PromisesTest::undo, PromisesTest::redo, PromisesTest::body, PromisesTest::act, PromisesTest::trace,
            PromisesTest::keep, PromisesTest::row, PromisesTest::put, PromisesTest::element, PromisesTest::shift,
            PromisesTest::taken, PromisesTest::count};
        for (Runnable each : all) {
            promise++;
            each.run();
        }
        promise = 22;
        behindLong();
        promise = 0;
        refusedChangesNothing();
        System.out.println(checked + " answers of " + all.length + " promises checked, " + wrong + " wrong");
        if (wrong != 0) System.exit(1);
    }
}
