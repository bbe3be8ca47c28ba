import java.io.IOException;

/** For each sentence of the terms (but those on THE LAW) that names a boundary case a test of its own. */
public final class TermsBoundariesTest extends Sentences {

    /** 20 times by whom, 2 times to whom. */
    private static int whole(int by, int to) {
        return 20 * by + 2 * to;
    }

    private static int cut(int by, int to) {
        return whole(by, to) + 1;
    }

    /** The numbers one by one: what lies beside them is refused and changes nothing. */
    private static void bounds(int what, int first, int most) {
        RefusedOnce x = land(4);
        due("at first", x.of(0, what), first);
        for (int v : new int[] {LEAST, -1, most + 1, MOST}) {
            due("mend(0, " + what + ", " + v + ")", x.mend(0, what, v), BAD);
            due("of(0, " + what + ")", x.of(0, what), first);
        }
        int was = first;
        for (int v = 0; v <= most; v++) {
            due("mend(0, " + what + ", " + v + ")", x.mend(0, what, v), was);
            due("of(0, " + what + ")", x.of(0, what), v);
            was = v;
        }
        due("mend(0, " + what + ", 0)", x.mend(0, what, 0), most);
        due("mend(0, " + what + ", most)", x.mend(0, what, most), 0);
        due("of(0, " + what + ")", x.of(0, what), most);
    }

    // ---- the head

    private static void at512Calls() {
        says("What it is", "An object is used for at most 512 calls after it has been made");
        RefusedOnce x = land(20, 0);
        for (int i = 3; i < 512; i++) due("call " + i, x.offer(1, 1), i < 23 ? 0 : STATE);
        due("the 512th", x.led(1), 20);
        x = land(10, 0);
        for (int i = 3; i < 512; i++) due("call " + i, x.offer(i % 2 == 1 ? 1 : 10, 0), i % 2 == 1 ? 1 : 0);
        due("the 512th", x.led(0), 509);
        x = land(10, 0);
        for (int i = 3; i < 512; i++) x.mend(0, 2, i % 13);
        due("the 512th", x.undo(), 39);
    }

    private static void theConstants() {
        says("The public face", "BAD = -1, NOT = -2, FULL = -3, STATE = -5, VOID = -2000000000;");
        due("BAD", RefusedOnce.BAD, BAD);
        due("NOT", RefusedOnce.NOT, NOT);
        due("FULL", RefusedOnce.FULL, FULL);
        due("STATE", RefusedOnce.STATE, STATE);
        due("VOID", RefusedOnce.VOID, VOID);
    }

    // ---- terms 1: people, offers, evenings

    private static void peopleAsTheyCome() {
        says("Terms 1", "PEOPLE 0 .. 5, as they come");
        RefusedOnce x = new RefusedOnce();
        for (int i = 0; i < 6; i++) {
            due("number " + i + " is nobody yet", x.of(i, 0), BAD);
            due("person", x.person(7 - i), i);
            due("of(" + i + ", 0)", x.of(i, 0), 7 - i);
        }
        due("a seventh", x.person(1), FULL);
        due("number 6", x.of(6, 0), BAD);
        due("number -1", x.of(-1, 0), BAD);
        due("the first one's", x.of(0, 0), 7);
    }

    private static void wholeCoins() {
        says("Terms 1", "WHOLE (0 .. 20 coins)");
        bounds(0, 4, 20);
    }

    private static void cutCoins() {
        says("Terms 1", "CUT (0 .. 20 notched ones; 0 at first)");
        bounds(1, 0, 20);
    }

    private static void pride() {
        says("Terms 1", "PRIDE (0 .. 12; 3 at first)");
        bounds(2, 3, 12);
    }

    private static void forged() {
        says("Terms 1", "FORGED (of his CUT ones, 0 .. 20; 0 at first: no more than CUT counts)");
        bounds(3, 0, 20);
        RefusedOnce x = tell(land(0), 3, 3);
        for (int cut = 0; cut <= 20; cut++) {
            x.mend(0, 1, cut);
            due("of " + cut + " CUT ones", x.of(0, 8), Math.min(cut, 3));
            due("as told", x.of(0, 3), 3);
        }
        x.mend(0, 1, 2);
        part("no more count in TEST", x.test(0, 1, 0), x.test(0, 1, 1), 1, 1);
        part("nor in HONEST", x.honest(0, 203, 0), x.honest(0, 203, 1), 0, 1);
        due("nor for ENOUGH", x.enough(0, 12), 1);
    }

    private static void notch() {
        says("Terms 1", "NOTCH (0 .. 4: what a CUT coin is worth, in farthings; 3 at first; a WHOLE one is worth 4)");
        bounds(4, 3, 4);
        RefusedOnce x = tell(land(20, 0, 20), 1, 20, 20, 0);
        for (int notch = 0; notch <= 4; notch++) {
            x.mend(0, 4, notch);
            due("by " + notch, x.of(0, 7), 80 + 20 * notch);
            due("CUT ones alone, by " + notch, x.of(1, 7), 20 * notch);
            due("WHOLE ones alone, by " + notch, x.of(2, 7), 80);
        }
    }

    private static void hour() {
        says("Terms 1", "HOUR (0 .. 11; 0 at first)");
        bounds(5, 0, 11);
    }

    private static void habit() {
        says("Terms 1", "HABIT (0 .. 12; 6 at first)");
        bounds(6, 6, 12);
    }

    private static void heMustHaveTheCoin() {
        says("Terms 1", "by one to another, of a WHOLE coin or of a CUT one (he must have it)");
        RefusedOnce x = tell(land(1, 0), 1, 1, 0);
        due("a WHOLE one of none", x.offer(10, 0), STATE);
        due("a WHOLE one of none, REFUSED", x.offer(10, 1), STATE);
        due("a CUT one of none", x.offer(10, 2), STATE);
        due("his only CUT one", x.offer(1, 2), 1);
        due("a second CUT one", x.offer(1, 2), STATE);
        due("his only WHOLE one", x.offer(1, 0), 1);
        due("a second WHOLE one", x.offer(1, 0), STATE);
        due("by one to himself", x.offer(11, 0), BAD);
        due("by one to himself, CUT", x.offer(11, 2), BAD);
    }

    private static void aCutOneMustBeTaken() {
        says("Terms 1", "A CUT one must be taken: it goes over");
        RefusedOnce x = tell(tell(land(0, 0), 1, 2, 0), 2, 0, 12);
        due("who would refuse all", x.odds(1), 12);
        due("it goes over", x.offer(1, 2), 1);
        due("of the giver", x.of(0, 1), 1);
        due("of the taker", x.of(1, 1), 1);
        due("none is REFUSED", x.led(1), 0);
        x.mend(0, 6, 0);
        bytes(x, 0, cut(0, 1));
        due("none in thought", x.evening(0, 20, 0), 0);
        due("it goes over in thought", x.later(0, 20, 1, 1), 2);
    }

    private static void forgedDoesNotGoWithIt() {
        says("Terms 1", "(FORGED does not go with it: who has fewer CUT ones then has no more FORGED ones than those)");
        RefusedOnce x = tell(tell(land(0, 0), 1, 3, 0), 3, 2, 0);
        x.offer(1, 2);
        due("two of two", x.of(0, 8), 2);
        x.offer(1, 2);
        due("one of one", x.of(0, 8), 1);
        x.offer(1, 2);
        due("none of none", x.of(0, 8), 0);
        due("of the taker", x.of(1, 8), 0);
        due("as told of the taker", x.of(1, 3), 0);
        due("as told", x.of(0, 3), 2);
        x = tell(tell(land(0), 1, 3), 3, 3);
        x.mint(0);
        due("by who gives one to be MINTED", x.of(0, 8), 2);
    }

    private static void refusedStaysWithWhoOffered() {
        says("Terms 1", "A WHOLE one goes over, or is REFUSED: then it is CUT, and stays with who offered it.");
        RefusedOnce x = land(2, 0);
        due("REFUSED", x.offer(1, 1), 0);
        due("WHOLE by whom", x.of(0, 0), 1);
        due("CUT by whom", x.of(0, 1), 1);
        due("WHOLE to whom", x.of(1, 0), 0);
        due("CUT to whom", x.of(1, 1), 0);
        due("taken", x.offer(1, 0), 1);
        due("WHOLE by whom", x.of(0, 0), 0);
        due("CUT by whom", x.of(0, 1), 1);
        due("WHOLE to whom", x.of(1, 0), 1);
        due("CUT to whom", x.of(1, 1), 0);
    }

    private static void moreThan20NobodyHas() {
        says("Terms 1", "More than 20 of a kind nobody has: what would be more can't be OFFERED");
        RefusedOnce x = tell(land(5, 19), 1, 5, 19);
        due("WHOLE to who has 19", x.offer(1, 0), 1);
        due("WHOLE to who has 20", x.offer(1, 0), STATE);
        due("REFUSED by who has 20", x.offer(1, 1), STATE);
        due("CUT to who has 19", x.offer(1, 2), 1);
        due("CUT to who has 20", x.offer(1, 2), STATE);
        due("20 WHOLE", x.of(1, 0), 20);
        due("20 CUT", x.of(1, 1), 20);
        due("by him the giver lost two", x.of(0, 0), 4);
        bytes(x, 0, whole(0, 1));
        bytes(x, 1, cut(0, 1));
        due("WHOLE in thought", x.evening(0, 20, 1), 0);
        due("CUT in thought", x.evening(1, 20, 1), 0);
        bytes(x, 0, cut(1, 0), cut(0, 1), cut(1, 0), whole(0, 1));
        due("CUT in thought, behind one that he gave", x.evening(0, 20, 1), 3);
        x.mend(1, 0, 19);
        x.mend(1, 1, 19);
        bytes(x, 0, whole(0, 1), whole(0, 1));
        bytes(x, 1, cut(0, 1), cut(0, 1));
        due("the second WHOLE one", x.evening(0, 20, 1), 1);
        due("the second CUT one", x.evening(1, 20, 1), 1);
        due("20 WHOLE then", x.later(0, 20, 1, 0), 20);
        due("20 CUT then", x.later(1, 20, 1, 1), 20);
    }

    private static void norByWhoHas20Cut() {
        says("Terms 1", "(nor a WHOLE one by who has 20 CUT)");
        RefusedOnce x = tell(land(5, 0), 1, 20, 0);
        due("by who has 20, taken", x.offer(1, 0), STATE);
        due("by who has 20, REFUSED", x.offer(1, 1), STATE);
        bytes(x, 0, whole(0, 1));
        due("in thought", x.evening(0, 20, 1), 0);
        due("a CUT one he may offer", x.offer(1, 2), 1);
        due("by who has 19, REFUSED", x.offer(1, 1), 0);
        due("he has 20 again", x.of(0, 1), 20);
        due("so he may not", x.offer(1, 0), STATE);
        x.mend(0, 1, 19);
        due("by who has 19, taken", x.offer(1, 0), 1);
    }

    private static void theBytesOfAnEvening() {
        says("Terms 1", "20 times by whom, 2 times to whom, and 0 WHOLE, 1 CUT");
        for (int by = 0; by < 6; by++) {
            for (int to = 0; to < 6; to++) {
                if (by == to) continue;
                RefusedOnce x = tell(land(4, 4, 4, 4, 4, 4), 1, 4, 4, 4, 4, 4, 4);
                bytes(x, 0, whole(by, to));
                bytes(x, 1, cut(by, to));
                due("WHOLE of " + by, x.later(0, 1, by, 0), 3);
                due("WHOLE of " + to, x.later(0, 1, to, 0), 5);
                due("CUT of " + by, x.later(1, 1, by, 1), 3);
                due("CUT of " + to, x.later(1, 1, to, 1), 5);
                due("WHOLE of " + by + " by a CUT one", x.later(1, 1, by, 0), 4);
                due("CUT of " + by + " by a WHOLE one", x.later(0, 1, by, 1), 4);
            }
        }
    }

    private static void anEveningHas20AtMost() {
        says("Terms 1", "(20 at most; it ends with");
        RefusedOnce x = tell(land(0, 0), 1, 20, 0);
        bytes(x, 0, times(19, cut(0, 1)));
        due("19", x.later(0, 20, 1, 1), 19);
        bytes(x, 0, times(20, cut(0, 1)));
        due("20", x.later(0, 20, 1, 1), 20);
        bytes(x, 0, joined(times(20, cut(0, 1)), cut(1, 0)));
        due("a 21st", x.later(0, 20, 1, 1), 20);
        bytes(x, 0, joined(times(19, cut(0, 1)), cut(1, 0), cut(0, 1)));
        due("the 20th", x.later(0, 20, 1, 1), 18);
        bytes(x, 1);
        bytes(x, 0, times(60, whole(0, 1)));
        due("for BEHIND, too", x.behind(0, 1, 0), 0);
        x = land(20, 0);
        bytes(x, 0, times(60, whole(0, 1)));
        bytes(x, 1);
        due("20 are REFUSED or taken", x.behind(0, 1, 0), 1 << 20);
    }

    private static void anEveningEnds() {
        says("Terms 1", "it ends with what is no two unlike PEOPLE, or below 0)");
        RefusedOnce x = tell(land(0, 0, 0), 1, 9, 9, 9);
        int[] ends = {whole(0, 0), cut(1, 1), whole(2, 2), whole(0, 3), cut(0, 9), whole(3, 0), cut(3, 3), 127, -1, -2, -128};
        for (int end : ends) {
            bytes(x, 0, cut(0, 1), end, cut(0, 1));
            due("with " + end, x.later(0, 20, 1, 1), 10);
            due("with " + end + " nothing is that can't be", x.evening(0, 20, 1), NOT);
            bytes(x, 0, end, cut(0, 1));
            due("at once with " + end, x.later(0, 20, 1, 1), 9);
        }
        bytes(x, 0, cut(0, 1), cut(2, 1), cut(0, 1));
        due("with none of these", x.later(0, 20, 1, 1), 12);
        RefusedOnce y = tell(land(0, 0, 0, 0, 0, 0), 1, 9, 9, 9, 9, 9, 9);
        bytes(y, 0, cut(5, 4), 120, cut(5, 4));
        due("with 120", y.later(0, 20, 4, 1), 10);
        bytes(y, 0, cut(5, 4), whole(5, 6), cut(5, 4));
        due("with 112", y.later(0, 20, 4, 1), 10);
        RefusedOnce nobody = land(5);
        bytes(nobody, 0, 0, 2);
        due("one alone", nobody.evening(0, 20, 1), NOT);
    }

    private static void byHabit() {
        says("Terms 1", "By HABIT a WHOLE one is REFUSED, if THE LAW gives HABIT or more then.");
        RefusedOnce x = land(9, 0);
        bytes(x, 0, whole(0, 1));
        bytes(x, 1, 0, 1);
        for (int habit = 0; habit <= 12; habit++) {
            x.mend(0, 6, habit);
            for (int pride = Math.max(0, habit - 1); pride <= Math.min(12, habit + 1); pride++) {
                x.mend(1, 2, pride);
                due("pride " + pride + ", habit " + habit, x.evening(0, 20, 0), pride >= habit ? 1 : 0);
                due("by a ROUND", x.round(1, -1), pride >= habit ? 1 : 0);
            }
        }
        law(x, "w*5");
        bytes(x, 0, whole(0, 1), whole(0, 1), whole(0, 1), whole(0, 1));
        x.mend(0, 6, 10);
        due("as it is then", x.evening(0, 20, 0), 2);
        x.mend(0, 6, 11);
        due("as it is then", x.evening(0, 20, 0), 1);
    }

    // ---- terms 2: evenings in thought, rounds

    private static void itsFirstN() {
        says("Terms 2", "(its first n OFFERS, all if there are fewer; an OFFER that can't be is left out)");
        RefusedOnce x = tell(land(0, 0, 0), 1, 3, 0, 0);
        bytes(x, 0, cut(0, 1), cut(2, 1), cut(0, 1), whole(0, 1), cut(0, 1));
        int[] then = {0, 1, 1, 2, 2, 3};
        for (int n = 0; n <= 20; n++) due("n " + n, x.later(0, n, 1, 1), then[Math.min(n, 5)]);
        due("what can't be changes nothing", x.later(0, 20, 2, 1), 0);
        due("nothing is below 0", x.later(0, 20, 0, 1), 0);
    }

    private static void theFirstThatCannotBe() {
        says("Terms 2", "the first that can't be (0 on; NOT)");
        RefusedOnce x = land(2, 0);
        bytes(x, 0, whole(1, 0), whole(0, 1));
        due("the first of all", x.evening(0, 20, 1), 0);
        bytes(x, 0, whole(0, 1), whole(0, 1), whole(0, 1), cut(0, 1));
        for (int n = 0; n <= 2; n++) due("none of " + n, x.evening(0, n, 1), NOT);
        for (int n = 3; n <= 20; n++) due("of " + n, x.evening(0, n, 1), 2);
        x = tell(land(0, 0), 1, 19, 0);
        bytes(x, 0, times(20, cut(0, 1)));
        due("the last of all", x.evening(0, 20, 1), 19);
        due("of 19 none", x.evening(0, 19, 1), NOT);
        bytes(x, 0);
        due("of an empty one", x.evening(0, 20, 1), NOT);
    }

    private static void whoRefused() {
        says("Terms 2", "farthings of one then; who REFUSED (bits)");
        RefusedOnce x = tell(land(20, 0, 0, 0, 0, 20), 2, 12, 12, 12, 3, 12, 3);
        bytes(x, 0, whole(5, 0), whole(0, 1), whole(0, 2), whole(0, 3), whole(0, 4), whole(0, 1));
        due("nobody of none", x.evening(0, 0, 2), 0);
        // By 0, of pride 12, three less: 9 of twelve refuse still; whole coins of 5 go to 0, who has 20.
        due("but for who can't be offered one", x.evening(0, 20, 2), 2 + 4 + 16);
        x.mend(0, 0, 19);
        due("all who refuse", x.evening(0, 20, 2), 1 + 2 + 4 + 16);
        due("the last of PEOPLE, too", x.evening(0, 1, 2), 1);
        bytes(x, 1, whole(0, 5));
        x.mend(5, 0, 0);
        x.mend(5, 2, 12);
        due("number 5", x.evening(1, 20, 2), 32);
        due("farthings of who was refused four times", x.later(0, 20, 0, 2), 4 * 14 + 3 * 4);
        due("farthings of who took one", x.later(0, 20, 3, 2), 4);
        x.mend(0, 4, 0);
        due("by NOTCH 0", x.later(0, 20, 0, 2), 4 * 14);
    }

    private static void aRoundHas10AtMost() {
        says("Terms 2", "(10 at most; it ends with what is no two unlike PEOPLE, or lacks)");
        RefusedOnce x = tell(land(0, 0, 0), 1, 20, 0, 0);
        for (int n : new int[] {1, 9, 10, 11, 30}) {
            bytes(x, 0, times(n, 0, 1));
            due("the last of " + n, x.round(0, Math.min(n, 10) - 1), 1);
            due("behind the last of " + n, x.round(0, Math.min(n, 10)), NOT);
        }
        bytes(x, 0, joined(times(10, 0, 1), 2, 1));
        due("an 11th that can't be", x.round(0, -1), 0);
        bytes(x, 0, joined(times(9, 0, 1), 2, 1));
        due("a 10th that can't be", x.round(0, -1), NOT);
        int[][] ends = {{0, 0}, {1, 1}, {0, 3}, {3, 0}, {3, 3}, {-1, 0}, {0, -1}, {6, 1}, {127, -128}};
        for (int[] end : ends) {
            bytes(x, 0, 0, 1, end[0], end[1], 0, 1);
            due("with " + end[0] + ", " + end[1], x.round(0, 0), 1);
            due("with " + end[0] + ", " + end[1] + " it ends", x.round(0, 1), NOT);
        }
        for (int by = 0; by <= 2; by++) {
            bytes(x, 0, 0, 1, by);
            due("whom " + by + " pays lacks", x.round(0, 0), 1);
            due("so there is one", x.round(0, 1), NOT);
            due("and CLEANEST is by it", x.cleanest(0), 57);
        }
        bytes(x, 0, 0);
        due("it lacks at once", x.round(0, -1), 0);
        due("there are none", x.round(0, 0), NOT);
    }

    private static void aRefusedOneGoesOverAtOnce() {
        says("Terms 2", "a WHOLE one that is REFUSED is CUT, and goes over at once, as a CUT one");
        RefusedOnce x = tell(land(1, 0, 0), 2, 3, 12, 12);
        bytes(x, 0, 0, 1, 1, 2);
        due("it is REFUSED", x.round(0, -1), 1);
        due("WHOLE", x.round(0, 0), 0);
        due("and goes on as a CUT one", x.round(0, 1), 1);
        bytes(x, 0, 0, 1);
        due("it does not stay with who offered it", x.cleanest(0), 0);
        bytes(x, 0, 0, 1, 0, 1);
        due("so he can't pay by it", x.round(0, -1), NOT);
    }

    private static void theFewestRefused() {
        says("Terms 2", "The fewest REFUSED by HABIT, by which all go over: how many");
        RefusedOnce x = tell(tell(land(3, 0, 0), 1, 1, 0, 0), 2, 3, 12, 3);
        bytes(x, 0, 0, 2, 0, 1);
        due("his CUT one for who would refuse", x.round(0, -1), 0);
        due("WHOLE to who takes", x.round(0, 0), 0);
        due("CUT to who would not", x.round(0, 1), 1);
        x.mend(0, 1, 0);
        due("he has none", x.round(0, -1), 1);
        bytes(x, 0, times(3, 0, 1));
        due("all of three", x.round(0, -1), 3);
        x.mend(0, 0, 20);
        bytes(x, 0, times(10, 0, 1));
        due("all of ten", x.round(0, -1), 10);
        x.mend(1, 2, 5);
        due("none of ten", x.round(0, -1), 0);
        // Refused from the third whole coin of his on: cut ones had best go then.
        law(x, "w>1&1*12");
        x.mend(0, 6, 1);
        x.mend(0, 1, 2);
        bytes(x, 0, times(4, 0, 1));
        due("by the law as it is then", x.round(0, -1), 0);
        int[] kinds = {0, 0, 1, 1};
        for (int k = 0; k < 4; k++) due("kind " + k, x.round(0, k), kinds[k]);
    }

    private static void ofLikeOnesTheFirstByNumbers() {
        says("Terms 2", "the k-th: 0 WHOLE, 1 CUT (of like ones the first by numbers, one behind the other)");
        RefusedOnce x = tell(land(1, 0), 1, 2, 0);
        bytes(x, 0, times(3, 0, 1));
        int[] first = {0, 1, 1};
        for (int k = 0; k < 3; k++) due("WHOLE first, " + k, x.round(0, k), first[k]);
        x = tell(tell(land(2, 0), 1, 1, 0), 2, 3, 12);
        bytes(x, 0, times(2, 0, 1));
        due("one is REFUSED either way", x.round(0, -1), 1);
        due("it is the first", x.round(0, 0), 0);
        due("the second is CUT", x.round(0, 1), 1);
    }

    private static void notAllCan() {
        says("Terms 2", "NOT: not all can.");
        RefusedOnce x = land(2, 0);
        bytes(x, 0, times(2, 0, 1));
        due("two can", x.round(0, -1), 0);
        bytes(x, 0, times(3, 0, 1));
        due("three can't", x.round(0, -1), NOT);
        for (int k = 0; k < 3; k++) due("so there is no kind " + k, x.round(0, k), NOT);
        x = tell(land(1, 20), 2, 3, 12);
        bytes(x, 0, 0, 1);
        due("a WHOLE one to who has 20", x.round(0, -1), NOT);
        x.mend(1, 0, 19);
        due("to who has 19", x.round(0, -1), 1);
        x = tell(land(1, 0), 1, 20, 0);
        bytes(x, 0, 0, 1);
        due("a CUT one by who has 20 of them", x.round(0, 0), 1);
        bytes(x, 0, 0, 1, 0, 1);
        due("a WHOLE one by him then", x.round(0, 1), 0);
        x.mend(1, 1, 20);
        due("neither", x.round(0, -1), NOT);
    }

    private static void cleanest() {
        says("Terms 2", "CLEANEST: by which most farthings are left with the first one who pays (of all ways, REFUSED or not):"
            + " farthings; NOT.");
        RefusedOnce x = tell(tell(land(2, 0), 1, 2, 0), 2, 3, 12);
        bytes(x, 0, 0, 1);
        due("the CUT one goes", x.cleanest(0), 4 * 2 + 3);
        x.mend(0, 4, 4);
        due("by NOTCH 4", x.cleanest(0), 4 * 2 + 4);
        x.mend(0, 4, 0);
        due("by NOTCH 0", x.cleanest(0), 8);
        x.mend(0, 4, 3);
        bytes(x, 0, 1, 0, 0, 1);
        due("the first one has none", x.cleanest(0), NOT);
        // WHOLE to 1, who refuses, and it comes back CUT; or the CUT one goes and comes back.
        bytes(x, 0, 0, 1, 1, 0);
        due("of both ways the dearer", x.cleanest(0), 14);
        x.mend(0, 1, 0);
        due("the way by which it is REFUSED", x.cleanest(0), 4 + 3);
        x.mend(1, 2, 0);
        due("taken, and it comes back WHOLE", x.cleanest(0), 8);
        x.mend(0, 0, 1);
        bytes(x, 0, 0, 1);
        due("nothing is left", x.cleanest(0), 0);
        bytes(x, 0, 0, 1, 0, 1);
        due("not all can", x.cleanest(0), NOT);
        x.mend(0, 1, 1);
        x.mend(0, 4, 0);
        bytes(x, 0, 0, 1);
        due("nothing by the first way, four by the second", x.cleanest(0), 4);
    }

    // ---- terms 3: odds

    private static void payNone() {
        says("Terms 3", "PAY: one OFFERS n (0 .. 8) WHOLE coins to another");
        RefusedOnce x = land(9, 0);
        part("n 0", x.pay(1, 0, 0, 0), x.pay(1, 0, 0, 1), 1, 1);
        part("n 0, r 1", x.pay(1, 0, 1, 0), x.pay(1, 0, 1, 1), 0, 1);
        part("n 8", x.pay(1, 8, 0, 0), x.pay(1, 8, 0, 1), 6561, 65536);
        for (int n : new int[] {LEAST, -1, 9, MOST}) {
            due("n " + n, x.pay(1, n, 0, 0), NO);
            due("MEAN, n " + n, x.mean(1, n, 0), NO);
        }
        part("MEAN of 0", x.mean(1, 0, 0), x.mean(1, 0, 1), 0, 1);
        part("MEAN of 8", x.mean(1, 8, 0), x.mean(1, 8, 1), 2, 1);
    }

    private static void payJustSoMany() {
        says("Terms 3", "how likely just r (0 .. 8) are REFUSED: a fraction; how likely none is.");
        RefusedOnce x = tell(land(9, 0), 2, 3, 6);
        int[] ways = {1, 8, 28, 56, 70, 56, 28, 8, 1};
        for (int r = 0; r <= 8; r++) {
            int below = 256, above = ways[r];
            while (above % 2 == 0) {
                above /= 2;
                below /= 2;
            }
            part("r " + r, x.pay(1, 8, r, 0), x.pay(1, 8, r, 1), above, below);
        }
        for (int r : new int[] {LEAST, -1, 9, MOST}) due("r " + r, x.pay(1, 8, r, 0), NO);
        part("more than n", x.pay(1, 7, 8, 0), x.pay(1, 7, 8, 1), 0, 1);
        part("just n", x.pay(1, 7, 7, 0), x.pay(1, 7, 7, 1), 1, 128);
        x.mend(1, 2, 0);
        part("none by 0 of twelve", x.pay(1, 8, 0, 0), x.pay(1, 8, 0, 1), 1, 1);
        x.mend(1, 2, 12);
        part("all by twelve of twelve", x.pay(1, 8, 8, 0), x.pay(1, 8, 8, 1), 1, 1);
        part("none by twelve of twelve", x.pay(1, 8, 0, 0), x.pay(1, 8, 0, 1), 0, 1);
    }

    private static void payEachOnce() {
        says("Terms 3", "one behind the other, each once (what can't be is left out)");
        RefusedOnce x = tell(land(2, 0), 2, 3, 6);
        part("two of two", x.pay(1, 2, 2, 0), x.pay(1, 2, 2, 1), 1, 4);
        part("two of eight, since he has two", x.pay(1, 8, 2, 0), x.pay(1, 8, 2, 1), 1, 4);
        part("none of eight", x.pay(1, 8, 0, 0), x.pay(1, 8, 0, 1), 1, 4);
        part("three of eight", x.pay(1, 8, 3, 0), x.pay(1, 8, 3, 1), 0, 1);
        part("MEAN of eight", x.mean(1, 8, 0), x.mean(1, 8, 1), 1, 1);
        x.mend(0, 0, 9);
        x.mend(0, 1, 19);
        // The first one that is REFUSED is the last that can be.
        part("by who has 19 CUT, one", x.pay(1, 2, 1, 0), x.pay(1, 2, 1, 1), 3, 4);
        part("by who has 19 CUT, two", x.pay(1, 2, 2, 0), x.pay(1, 2, 2, 1), 0, 1);
        part("MEAN by who has 19 CUT", x.mean(1, 2, 0), x.mean(1, 2, 1), 3, 4);
        x.mend(0, 1, 0);
        x.mend(1, 0, 19);
        // The first one that is taken is the last that can be.
        part("to who has 19, one", x.pay(1, 2, 1, 0), x.pay(1, 2, 1, 1), 1, 4);
        part("to who has 19, two", x.pay(1, 2, 2, 0), x.pay(1, 2, 2, 1), 1, 4);
        part("to who has 19, none", x.pay(1, 2, 0, 0), x.pay(1, 2, 0, 1), 1, 2);
    }

    private static void payByTheLawAsItIsThen() {
        says("Terms 3", "each is REFUSED by THE LAW, as it is then");
        RefusedOnce x = land(5, 0);
        law(x, "w*12");
        part("the first is taken, the second REFUSED", x.pay(1, 2, 1, 0), x.pay(1, 2, 1, 1), 1, 1);
        part("all but the first", x.pay(1, 5, 4, 0), x.pay(1, 5, 4, 1), 1, 1);
        part("MEAN", x.mean(1, 5, 0), x.mean(1, 5, 1), 4, 1);
        x.mend(1, 1, 6);
        law(x, "c");
        part("by CUT ones of the taker", x.pay(1, 1, 1, 0), x.pay(1, 1, 1, 1), 1, 2);
        part("MEAN by CUT ones of the taker", x.mean(1, 5, 0), x.mean(1, 5, 1), 5, 2);
        law(x, "w*6");
        // Of two: the second is REFUSED by half.
        part("MEAN by half", x.mean(1, 2, 0), x.mean(1, 2, 1), 1, 2);
    }

    private static void atRandom() {
        says("Terms 3", "AT RANDOM: n times (0 .. 2) one of all that may be OFFERED WHOLE (by and to unlike ones, all alike)");
        RefusedOnce x = tell(land(1, 0, 0), 2, 3, 6, 0);
        part("n 0", x.stays(0, 0), x.stays(0, 1), 1, 1);
        // 0 to 1: 6 of twelve, 0 to 2: all.
        part("n 1", x.stays(1, 0), x.stays(1, 1), 3, 4);
        // From 1: to 0 by 3 - 1, to 2 by 12 of twelve; from 2: to 0 by 9, to 1 by 6.
        // By twelfths 6 * 22 and 12 * 15 of 2 * 12 * 24.
        part("n 2", x.stays(2, 0), x.stays(2, 1), 13, 24);
        for (int n : new int[] {LEAST, -1, 3, MOST}) due("n " + n, x.stays(n, 0), NO);
        RefusedOnce one = land(1, 0);
        part("one coin that goes and comes back", one.stays(2, 0), one.stays(2, 1), 9, 16);
        x.mend(2, 0, 20);
        x.mend(2, 1, 20);
        // Only 0 to 1 may be: 2 may offer none, and takes none.
        part("of one alone", x.stays(1, 0), x.stays(1, 1), 1, 2);
    }

    private static void noneMayBeOffered() {
        says("Terms 3", "how likely all coins that are WHOLE stay so: a fraction (none may be OFFERED: it stays)");
        RefusedOnce x = new RefusedOnce();
        for (int n = 0; n <= 2; n++) part("nobody, n " + n, x.stays(n, 0), x.stays(n, 1), 1, 1);
        x.person(20);
        for (int n = 0; n <= 2; n++) part("one alone, n " + n, x.stays(n, 0), x.stays(n, 1), 1, 1);
        x.person(20);
        for (int n = 0; n <= 2; n++) part("both have 20, n " + n, x.stays(n, 0), x.stays(n, 1), 1, 1);
        x = tell(tell(land(5, 5), 1, 20, 20), 2, 12, 12);
        for (int n = 0; n <= 2; n++) part("both have 20 CUT, n " + n, x.stays(n, 0), x.stays(n, 1), 1, 1);
        x = tell(tell(land(1, 0), 1, 0, 20), 2, 12, 6);
        // 0 to 1: 6 - 3 of twelve; then 1 may offer none, and 0 has none.
        part("none may be OFFERED the second time", x.stays(2, 0), x.stays(2, 1), 3, 4);
        x = tell(land(1, 0), 2, 3, 12);
        part("it never stays", x.stays(1, 0), x.stays(1, 1), 0, 1);
        part("nor twice", x.stays(2, 0), x.stays(2, 1), 0, 1);
    }

    private static void handsEnd() {
        says("Terms 3", "(10 at most; it ends with what is none)");
        RefusedOnce x = tell(land(0, 0), 2, 0, 12);
        x.mend(0, 4, 4);
        bytes(x, 0, joined(times(9, 0), 1));
        due("the tenth", x.hands(0, 1), 9);
        bytes(x, 0, joined(times(10, 0), 1));
        due("an 11th", x.hands(0, 0), 0);
        x.mend(0, 4, 3);
        bytes(x, 0, joined(times(1, 0, 1), times(58, 0)));
        due("of sixty ten count", x.hands(0, 0), 12 - 8);
        for (int end : new int[] {2, 6, 127, -1, -128}) {
            bytes(x, 0, 0, 0, end, 1);
            due("with " + end, x.hands(0, 0), 0);
            bytes(x, 0, 0, 1, end, 0, 0);
            due("none behind " + end, x.hands(0, 0), 12);
            bytes(x, 0, end, 1);
            due("at once with " + end, x.hands(0, 1), 0);
        }
        bytes(x, 0, 0, 1, 1, 0, 0);
        due("the same hands twice are two", x.hands(0, 0), 12 - 2);
    }

    private static void anyButTheFirst() {
        says("Terms 3", "one of them but the first may say no");
        RefusedOnce x = tell(land(0, 0), 2, 12, 0);
        bytes(x, 0, 0);
        due("one alone", x.hands(0, 0), 0);
        due("one alone, in which place", x.hands(0, 1), 0);
        bytes(x, 0, 0, 1);
        due("not the first", x.hands(0, 0), 0);
        bytes(x, 0, 1, 0);
        due("the last may", x.hands(0, 0), 12);
        due("the last may, in which place", x.hands(0, 1), 1);
        bytes(x, 0, 0, 0);
        due("who is first, too, may in another place", x.hands(0, 1), 1);
    }

    private static void whoSaysNo() {
        says("Terms 3", "who says no has PRIDE for it, all behind him lose 4 less NOTCH each (all together): the best: that");
        RefusedOnce x = tell(land(0, 0, 0), 2, 0, 9, 5);
        bytes(x, 0, 0, 1, 2, 0, 0);
        for (int notch = 0; notch <= 4; notch++) {
            x.mend(0, 4, notch);
            // 9 less 3 times and 5 less 2 times what a notch takes.
            int first = 9 - 3 * (4 - notch), second = 5 - 2 * (4 - notch);
            due("by " + notch, x.hands(0, 0), Math.max(0, Math.max(first, second)));
            due("by " + notch + ", in which place", x.hands(0, 1),
                first < 1 && second < 1 ? 0 : first >= second ? 1 : 2);
        }
        due("by 4, nobody loses", x.hands(0, 0), 9);
        due("by 4, in which place", x.hands(0, 1), 1);
    }

    private static void ofLikeHandsTheFirst() {
        says("Terms 3", "in which place (of the ROW, 0 on; of like ones the first; 0: none says no: 0)");
        RefusedOnce x = tell(land(0, 0, 0), 2, 0, 4, 3);
        bytes(x, 0, 0, 1, 2);
        due("3 and 3: the best", x.hands(0, 0), 3);
        due("3 and 3: the first", x.hands(0, 1), 1);
        x.mend(2, 2, 4);
        due("3 and 4: the second", x.hands(0, 1), 2);
        x.mend(1, 2, 1);
        x.mend(2, 2, 0);
        due("0 and 0: the best", x.hands(0, 0), 0);
        due("0 and 0: none says no", x.hands(0, 1), 0);
        x.mend(1, 2, 0);
        due("less than 0 is no best", x.hands(0, 0), 0);
        due("less than 0 is no place", x.hands(0, 1), 0);
        x.mend(1, 2, 2);
        due("1", x.hands(0, 0), 1);
        due("1 has a place", x.hands(0, 1), 1);
        bytes(x, 0);
        due("an empty ROW", x.hands(0, 0), 0);
        due("an empty ROW, in which place", x.hands(0, 1), 0);
    }

    private static void testLooksAtSoMany() {
        says("Terms 3", "TEST: of CUT coins of one t (0 .. 20) are looked at, all alike likely: how likely a FORGED one is found");
        RefusedOnce x = tell(tell(land(0), 1, 20), 3, 1);
        for (int t = 0; t <= 20; t++) {
            int shared = t == 0 ? 20 : 1;
            for (int d = 1; d <= 20; d++) if (t > 0 && t % d == 0 && 20 % d == 0) shared = d;
            part("t " + t, x.test(0, t, 0), x.test(0, t, 1), t / shared, 20 / shared);
        }
        for (int t : new int[] {LEAST, -1, 21, MOST}) due("t " + t, x.test(0, t, 0), NO);
        x.mend(0, 3, 2);
        // None of two: 18 * 17 of 20 * 19.
        part("two of two", x.test(0, 2, 0), x.test(0, 2, 1), 37, 190);
        x.mend(0, 3, 20);
        part("all are", x.test(0, 1, 0), x.test(0, 1, 1), 1, 1);
        part("none is looked at", x.test(0, 0, 0), x.test(0, 0, 1), 0, 1);
        x.mend(0, 3, 10);
        // One less C(10, 10) by C(20, 10).
        part("ten of twenty", x.test(0, 10, 0), x.test(0, 10, 1), 184755, 184756);
        part("eleven of twenty", x.test(0, 11, 0), x.test(0, 11, 1), 1, 1);
    }

    private static void asManyAsThereAre() {
        says("Terms 3", "(none is FORGED, t is more than CUT: as many as there are)");
        RefusedOnce x = tell(tell(land(0), 1, 4), 3, 1);
        part("one less than all", x.test(0, 3, 0), x.test(0, 3, 1), 3, 4);
        for (int t = 4; t <= 20; t++) part("t " + t, x.test(0, t, 0), x.test(0, t, 1), 1, 1);
        x.mend(0, 3, 0);
        for (int t = 0; t <= 20; t++) part("none is FORGED, t " + t, x.test(0, t, 0), x.test(0, t, 1), 0, 1);
        x.mend(0, 3, 20);
        x.mend(0, 1, 0);
        for (int t = 0; t <= 20; t++) part("none is CUT, t " + t, x.test(0, t, 0), x.test(0, t, 1), 0, 1);
        x.mend(0, 1, 1);
        part("one is CUT, and more are told FORGED", x.test(0, 20, 0), x.test(0, 20, 1), 1, 1);
        part("HONEST, too", x.honest(0, 201, 0), x.honest(0, 201, 1), 1, 1);
        part("HONEST, two of one", x.honest(0, 202, 0), x.honest(0, 202, 1), 0, 1);
    }

    private static void enoughByTwelfths() {
        says("Terms 3", "ENOUGH: the fewest t by which it is found by x (0 .. 12) of twelve or more; NOT: not by all.");
        RefusedOnce x = tell(tell(land(0), 1, 12), 3, 1);
        for (int part = 0; part <= 12; part++) due("x " + part, x.enough(0, part), part);
        for (int part : new int[] {LEAST, -1, 13, MOST}) due("x " + part, x.enough(0, part), BAD);
        x.mend(0, 1, 13);
        due("a bit more than is needed", x.enough(0, 11), 12);
        due("certain by all alone", x.enough(0, 12), 13);
        x.mend(0, 3, 0);
        due("none is FORGED, by 0", x.enough(0, 0), 0);
        for (int part = 1; part <= 12; part++) due("none is FORGED, by " + part, x.enough(0, part), NOT);
        x.mend(0, 3, 5);
        x.mend(0, 1, 0);
        due("none is CUT, by 0", x.enough(0, 0), 0);
        due("none is CUT, by 1", x.enough(0, 1), NOT);
    }

    private static void honestIfSoManyOrMore() {
        says("Terms 3", "HONEST: one is said to forge, if m (1 .. 9) or more are FORGED of t looked at");
        RefusedOnce x = tell(tell(land(0), 1, 20), 3, 9);
        for (int m = 1; m <= 9; m++) part("all, m " + m, x.honest(0, 200 + m, 0), x.honest(0, 200 + m, 1), 1, 1);
        x.mend(0, 3, 8);
        part("all, nine of eight", x.honest(0, 209, 0), x.honest(0, 209, 1), 0, 1);
        part("all, eight of eight", x.honest(0, 208, 0), x.honest(0, 208, 1), 1, 1);
        for (int t = 0; t <= 20; t++) due("m 0 of " + t, x.honest(0, 10 * t, 0), NO);
        part("none is looked at", x.honest(0, 1, 0), x.honest(0, 1, 1), 0, 1);
        due("t 21", x.honest(0, 211, 0), NO);
        x.mend(0, 3, 1);
        for (int t = 0; t <= 20; t++) {
            part("one or more of " + t, x.honest(0, 10 * t + 1, 0), x.honest(0, 10 * t + 1, 1), x.test(0, t, 0), x.test(0, t, 1));
        }
        x.mend(0, 1, 4);
        x.mend(0, 3, 2);
        // Of two that are looked at: both 1 of 6, one or more 5 of 6.
        part("two or more", x.honest(0, 22, 0), x.honest(0, 22, 1), 1, 6);
        part("one or more", x.honest(0, 21, 0), x.honest(0, 21, 1), 5, 6);
        part("three or more", x.honest(0, 23, 0), x.honest(0, 23, 1), 0, 1);
        x.mend(0, 3, 0);
        part("none is FORGED", x.honest(0, 201, 0), x.honest(0, 201, 1), 0, 1);
    }

    private static void dowryCoins() {
        says("Terms 3", "DOWRY: n WHOLE coins (0 .. 99) of a set of PEOPLE");
        RefusedOnce x = land(20, 20, 20, 20, 20, 20);
        due("0 of all", x.dowry(63, 0), 0);
        due("0 of none", x.dowry(0, 0), 0);
        due("99 of all", x.dowry(63, 99), 15);
        due("80 of all", x.dowry(63, 80), 15);
        due("79 of all", x.dowry(63, 79), 7);
        due("99 of five, the last keeps one", x.dowry(62, 99), 30);
        for (int n : new int[] {LEAST, -1, 100, MOST}) due("n " + n, x.dowry(63, n), BAD);
        for (int set : new int[] {LEAST, -1, 64, MOST}) due("set " + set, x.dowry(set, 1), BAD);
        x = land(20);
        due("of one", x.dowry(1, 20), 1);
        due("of who is not there", x.dowry(2, 0), BAD);
        due("of one and of who is not there", x.dowry(3, 0), BAD);
        due("of nobody", new RefusedOnce().dowry(0, 0), 0);
        due("of nobody, more", new RefusedOnce().dowry(1, 0), BAD);
    }

    private static void whoGivesAll() {
        says("Terms 3", "who (bits) gives all he has (one at least), if each gives as many as he may, by numbers, till there are"
            + " enough (the last one may keep some: no bit)");
        RefusedOnce x = land(2, 0, 3, 4);
        int[] bits = {0, 0, 1, 1, 1, 5, 5, 5, 5, 13};
        for (int n = 0; n <= 9; n++) due("n " + n, x.dowry(15, n), bits[n]);
        due("who has none has no bit", x.dowry(3, 2), 1);
        x.mend(1, 0, 1);
        due("who has one coin, and gives it", x.dowry(3, 3), 3);
        due("one coin of one", x.dowry(2, 1), 2);
        x.mend(1, 0, 0);
        due("the first is not of the set", x.dowry(12, 3), 4);
        due("none behind who made it enough", x.dowry(15, 2), 1);
        x.mend(0, 1, 9);
        due("CUT ones don't count", x.dowry(1, 3), NOT);
    }

    private static void thereAreNotEnough() {
        says("Terms 3", "NOT: there aren't.");
        RefusedOnce x = land(2, 0, 3);
        due("just enough", x.dowry(7, 5), 5);
        due("one too many", x.dowry(7, 6), NOT);
        due("99", x.dowry(7, 99), NOT);
        due("of who has none", x.dowry(2, 1), NOT);
        due("of none", x.dowry(0, 1), NOT);
        due("none of who has none", x.dowry(2, 0), 0);
    }

    private static void richest() {
        says("Terms 3", "RICHEST: of whom most farthings are (of like ones the least), by which NOTCHES (0 .. 4; bits) it is a"
            + " told one.");
        RefusedOnce x = tell(land(3, 2, 1), 1, 0, 2, 4);
        // 12, 8 + 2 n, 4 + 4 n: like ones at 2.
        due("0", x.richest(0), 1 + 2 + 4);
        due("1", x.richest(1), 0);
        due("2", x.richest(2), 8 + 16);
        x = land(0, 0, 0, 0, 0, 0);
        due("all have nothing: the least", x.richest(0), 31);
        for (int one = 1; one < 6; one++) due("all have nothing: " + one, x.richest(one), 0);
        x.mend(5, 1, 1);
        due("by NOTCH 0 alone", x.richest(0), 1);
        due("but by NOTCH 0", x.richest(5), 30);
        x.mend(5, 1, 0);
        x.mend(5, 0, 1);
        due("by all", x.richest(5), 31);
        x.mend(0, 4, 0);
        due("NOTCH as it is does not matter", x.richest(5), 31);
        due("one alone", land(0).richest(0), 31);
    }

    // ---- terms 4: read back, drawn, in deed

    private static void whatIsTold() {
        says("Terms 4", "by twos WHOLE and CUT of PEOPLE 0 on (what lacks: any)");
        RefusedOnce x = land(2, 0);
        bytes(x, 0, whole(0, 1), whole(0, 1));
        int[][] told = {{}, {0}, {0, 1}, {0, 1, 1}, {0, 1, 1, 0}, {0, 1, 1, 0, 9}, {0, 2}, {0, 2, 1}, {0, 2, 0, 0}, {1}, {0, 0, 2, 0}};
        int[] ways = {4, 4, 2, 2, 2, 2, 1, 0, 1, 0, 1};
        for (int i = 0; i < told.length; i++) {
            bytes(x, 1, told[i]);
            due("told " + i, x.behind(0, 1, 0), ways[i]);
        }
        for (int v : new int[] {-128, -1, 21, 127}) {
            bytes(x, 1, 0, v);
            due("told " + v, x.behind(0, 1, 0), 0);
        }
        bytes(x, 0);
        for (int i = 0; i <= 4; i++) {
            bytes(x, 1, 2, 0, 0, 0);
            due("of an empty EVENING", x.behind(0, 1, 0), 1);
            if (i < 4) x.put(1, i, 1);
            due("of an empty EVENING, told otherwise at " + i, x.behind(0, 1, 0), i < 4 ? 0 : 1);
        }
        x = tell(land(20, 19), 1, 0, 20);
        bytes(x, 0, whole(0, 1));
        bytes(x, 1, 19, 0, 20, 20);
        due("20 of each", x.behind(0, 1, 0), 1);
    }

    /** What purses hold behind one OFFER, by twos. */
    private static int[] behindOne(int by, int to, int kind) {
        int[] told = times(6, 5, 5);
        told[2 * by + (kind == 1 ? 1 : 0)]--;
        told[kind == 0 ? 2 * to : kind == 1 ? 2 * to + 1 : 2 * by + 1]++;
        return told;
    }

    private static void toldOfAllPeople() {
        says("Terms 4", "BEHIND: purses behind an EVENING are told");
        RefusedOnce x = null;
        for (int by = 0; by < 6; by++) {
            for (int to = 0; to < 6; to++) {
                if (by == to) continue;
                x = tell(land(5, 5, 5, 5, 5, 5), 1, 5, 5, 5, 5, 5, 5);
                bytes(x, 0, whole(by, to));
                bytes(x, 1, behindOne(by, to, 0));
                due("taken by " + to + ": ways", x.behind(0, 1, 0), 1);
                due("taken by " + to + ": fewest", x.behind(0, 1, 1), 0);
                bytes(x, 1, behindOne(by, to, 2));
                due("REFUSED by " + to + ": ways", x.behind(0, 1, 0), 1);
                due("REFUSED by " + to + ": fewest", x.behind(0, 1, 1), 1);
                bytes(x, 1, behindOne(by, to, 1));
                due("as by a CUT one", x.behind(0, 1, 0), 0);
                bytes(x, 0, cut(by, to));
                due("by a CUT one", x.behind(0, 1, 0), 1);
                due("by a CUT one: fewest", x.behind(0, 1, 1), 0);
            }
        }
        x = land(0, 2, 0);
        bytes(x, 0, whole(1, 2));
        bytes(x, 1, 0, 0, 1);
        due("CUT of who offered is any", x.behind(0, 1, 0), 2);
        bytes(x, 1, 0, 0, 1, 1);
        due("CUT of who offered is one", x.behind(0, 1, 3), 1);
        bytes(x, 1, 0, 0, 1, 0);
        due("CUT of who offered is none", x.behind(0, 1, 1), 0);
    }

    private static void whatCannotBeMakesAWayNone() {
        says("Terms 4", "of all ways to REFUSE or take the WHOLE coins OFFERED (by whatever law; what can't be makes a way none)");
        RefusedOnce x = tell(land(2, 0), 2, 12, 12);
        bytes(x, 1);
        bytes(x, 0, whole(0, 1), whole(0, 1));
        due("whatever THE LAW says", x.behind(0, 1, 0), 4);
        bytes(x, 0, whole(0, 1), whole(0, 1), whole(0, 1));
        due("the third can't be in any", x.behind(0, 1, 0), 0);
        bytes(x, 0, whole(0, 1), whole(1, 0));
        due("the second can be, if the first is taken", x.behind(0, 1, 0), 2);
        bytes(x, 0, whole(0, 1), cut(0, 1));
        due("the second can be, if the first is REFUSED", x.behind(0, 1, 0), 1);
        bytes(x, 0, cut(0, 1));
        due("he has no CUT one", x.behind(0, 1, 0), 0);
        x.mend(0, 1, 19);
        bytes(x, 0, whole(0, 1), whole(0, 1));
        due("by who has 19 CUT", x.behind(0, 1, 0), 2);
        x.mend(0, 1, 20);
        bytes(x, 0, whole(0, 1));
        due("by who has 20 CUT", x.behind(0, 1, 0), 0);
        x.mend(0, 1, 0);
        x.mend(1, 0, 19);
        bytes(x, 0, whole(0, 1), whole(0, 1));
        due("to who has 19", x.behind(0, 1, 0), 2);
        x.mend(1, 0, 20);
        bytes(x, 0, whole(0, 1));
        due("to who has 20", x.behind(0, 1, 0), 0);
        x.mend(0, 1, 1);
        x.mend(1, 1, 20);
        bytes(x, 0, cut(0, 1));
        due("CUT to who has 20", x.behind(0, 1, 0), 0);
        x.mend(1, 1, 19);
        due("CUT to who has 19", x.behind(0, 1, 0), 1);
    }

    private static void theFewestOfTheWays() {
        says("Terms 4", "how many make it so; the fewest REFUSED; by that one, bits of OFFERS REFUSED (of like ones the least);"
            + " NOT.");
        RefusedOnce x = land(3, 3);
        bytes(x, 0, whole(0, 1), whole(0, 1), whole(1, 0), whole(0, 1));
        bytes(x, 1, 0, 3);
        due("all of 0, none of 1: ways", x.behind(0, 1, 0), 1);
        due("fewest", x.behind(0, 1, 1), 4);
        bytes(x, 1, 0, 2);
        due("two of three: ways", x.behind(0, 1, 0), 3);
        due("fewest", x.behind(0, 1, 1), 3);
        due("of like ones the least", x.behind(0, 1, 2), 1 + 2 + 4);
        bytes(x, 1, 1, 1);
        due("one of three: ways", x.behind(0, 1, 0), 3);
        due("fewest of them", x.behind(0, 1, 1), 1);
        due("of like ones the first", x.behind(0, 1, 2), 1);
        bytes(x, 1);
        due("any: fewest", x.behind(0, 1, 1), 0);
        due("any: none", x.behind(0, 1, 2), 0);
        bytes(x, 1, 3, 3);
        due("no way", x.behind(0, 1, 0), 0);
        due("no way: fewest", x.behind(0, 1, 1), NOT);
        due("no way: which", x.behind(0, 1, 2), NOT);
    }

    private static void certain() {
        says("Terms 4", "CERTAIN: which OFFERS (bits) are REFUSED in all those ways; 0 without any.");
        RefusedOnce x = land(3, 3);
        bytes(x, 0, whole(0, 1), whole(1, 0), whole(0, 1));
        bytes(x, 1);
        due("any", x.behind(0, 1, 3), 0);
        bytes(x, 1, 2, 2);
        due("both of 0", x.behind(0, 1, 3), 1 + 4);
        bytes(x, 1, 1, 2, 2, 1);
        due("all", x.behind(0, 1, 3), 7);
        bytes(x, 1, 1, 1);
        due("one of two: not certain, but that of 1", x.behind(0, 1, 3), 2);
        bytes(x, 1, 5);
        due("no way", x.behind(0, 1, 0), 0);
        due("without any", x.behind(0, 1, 3), 0);
        x = land(20, 0);
        bytes(x, 0, times(20, whole(0, 1)));
        bytes(x, 1, 0, 20);
        due("all of 20", x.behind(0, 1, 3), (1 << 20) - 1);
        due("which", x.behind(0, 1, 2), (1 << 20) - 1);
        due("fewest", x.behind(0, 1, 1), 20);
        bytes(x, 1, 0, 1);
        due("one of 20", x.behind(0, 1, 0), 20);
        due("none of them is certain", x.behind(0, 1, 3), 0);
        due("the first", x.behind(0, 1, 2), 1);
    }

    /** DRAWN by the words of the document, where THE LAW gives the same for all. */
    private static int drawn(int[] wholes, int[] cuts, int twelfths, int[] seedNM, int what) {
        int z = seedNM[0], people = wholes.length, left = 0, refused = 0;
        for (int i = 0; i < seedNM[1]; i++) {
            int[] w = wholes.clone(), c = cuts.clone();
            for (int j = 0; j < seedNM[2]; j++) {
                z = z * 1103515245 + 12345;
                int by = (z >>> 8) % people, to = (z >>> 12) % people;
                if (by == to || w[by] < 1 || w[to] > 19 || c[by] > 19) continue;
                boolean no = (z >>> 20) % 12 < twelfths;
                w[by]--;
                if (no) c[by]++;
                else w[to]++;
                if (no) refused++;
            }
            for (int each : w) left += each;
        }
        return what == 0 ? left : refused;
    }

    private static void drawnBy(int[] wholes, int[] cuts, int twelfths, int seed, int n, int m) {
        RefusedOnce x = tell(land(wholes), 1, cuts);
        law(x, "" + twelfths);
        for (int what = 0; what < 2; what++) {
            due("drawn(" + seed + ", " + (100 * n + m) + ", " + what + ") by " + twelfths + " of " + wholes.length,
                x.drawn(seed, 100 * n + m, what), drawn(wholes, cuts, twelfths, new int[] {seed, n, m}, what));
        }
    }

    private static void drawnEvenings() {
        says("Terms 4", "DRAWN: n evenings (1 .. 30) of m OFFERS (1 .. 30) from now by a SEED");
        int[] some = {5, 4, 6}, none = {0, 0, 0};
        int[][] sizes = {{1, 1}, {1, 30}, {30, 1}, {30, 30}, {2, 3}};
        for (int[] nm : sizes) drawnBy(some, none, 6, 77, nm[0], nm[1]);
        RefusedOnce x = land(5, 4);
        int[] bad = {LEAST, -101, -1, 0, 1, 30, 31, 99, 100, 131, 199, 200, 3000, 3031, 3099, 3100, 3101, 9999, 10101, MOST};
        for (int nm : bad) due("nm " + nm, x.drawn(1, nm, 0), BAD);
        due("each from now: 0 has them still", x.count(1), 9);
    }

    private static void drawnSeeds() {
        says("Terms 4", "z = z * 1103515245 + 12345 (an int; SEED at first) ahead of each");
        for (int seed : new int[] {LEAST, LEAST + 1, -1, 0, 1, 12345, -1103515245, MOST - 1, MOST}) {
            drawnBy(new int[] {5, 4, 6}, new int[] {0, 0, 0}, 6, seed, 3, 20);
        }
    }

    private static void drawnByHowMany() {
        says("Terms 4", "by the (z >>> 8) % how many-th, to the (z >>> 12) % how many-th (the same, can't be: left out) a WHOLE"
            + " one, REFUSED, if (z >>> 20) % 12 is below THE LAW");
        for (int people = 1; people <= 6; people++) {
            int[] wholes = times(people, 6), cuts = times(people, 0);
            for (int twelfths = 0; twelfths <= 12; twelfths++) drawnBy(wholes, cuts, twelfths, people, 4, 20);
            drawnBy(times(people, 19), cuts, 1, people, 9, 20);
            drawnBy(times(people, 20), cuts, 6, people, 9, 20);
            drawnBy(wholes, times(people, 18), 9, people, 9, 20);
            drawnBy(wholes, times(people, 20), 9, people, 9, 20);
            drawnBy(times(people, 1), cuts, 9, people, 9, 20);
            drawnBy(cuts, cuts, 9, people, 9, 20);
        }
        RefusedOnce nobody = new RefusedOnce();
        due("nobody: WHOLE", nobody.drawn(1, 3030, 0), 0);
        due("nobody: REFUSED", nobody.drawn(1, 3030, 1), 0);
        due("one alone", land(7).drawn(1, 3030, 0), 210);
    }

    private static void hoursPass() {
        says("Terms 4", "an HOUR passes (behind 11: 0)");
        RefusedOnce x = new RefusedOnce();
        for (int i = 1; i <= 30; i++) due("hour " + i, x.hour(), i % 12);
        x.mend(0, 5, 11);
        due("behind 11", x.hour(), 0);
        due("it is 0", x.of(0, 5), 0);
        x.mend(0, 5, 10);
        due("behind 10", x.hour(), 11);
    }

    private static void minted() {
        says("Terms 4", "a WHOLE coin is MINTED for one, who gives a CUT one");
        RefusedOnce x = tell(land(18, 0), 1, 3, 0);
        due("the 19th", x.mint(0), 19);
        due("the 20th", x.mint(0), 20);
        due("a 21st", x.mint(0), STATE);
        due("CUT ones", x.of(0, 1), 1);
        due("of none", x.mint(1), STATE);
        x.mend(1, 1, 1);
        due("of one", x.mint(1), 1);
        due("of none then", x.mint(1), STATE);
        due("how many", x.led(2), 3);
    }

    private static void changes() {
        says("Terms 4", "CHANGES (all numbers of mend(); telling the same number is none) can be UNDONE, the latest first");
        RefusedOnce x = land(4, 5);
        int[] told = {9, 8, 7, 6, 2, 5, 4};
        int[] first = {4, 0, 3, 0, 3, 0, 6};
        for (int what = 0; what <= 6; what++) {
            due("mend", x.mend(0, what, told[what]), first[what]);
            due("the same number", x.mend(0, what, told[what]), told[what]);
            due("changes", x.count(4), what + 1);
        }
        for (int what = 6; what >= 0; what--) {
            due("as told", x.of(0, what), told[what]);
            due("undo", x.undo(), what);
            due("as it was", x.of(0, what), first[what]);
        }
        due("none is left", x.undo(), STATE);
        due("a number that it has at first", x.mend(0, 1, 0), 0);
        due("is no change", x.count(4), 0);
        x.person(3);
        law(x, "1");
        x.body(0);
        due("people, a law, a BODY are none", x.count(4), 0);
    }

    private static void doneAgain() {
        says("Terms 4", "DONE AGAIN (as long as no other came behind)");
        RefusedOnce x = land(4, 5);
        x.mend(0, 0, 7);
        x.mend(0, 1, 3);
        x.undo();
        x.undo();
        due("the first again", x.redo(), 1);
        due("as told", x.of(0, 0), 7);
        due("the second again", x.redo(), 0);
        due("as told", x.of(0, 1), 3);
        due("no third", x.redo(), STATE);
        x.undo();
        x.mend(0, 0, 7);
        due("the same number is no other", x.redo(), 0);
        x.undo();
        x.mend(0, 0, 21);
        due("a refused one is no other", x.redo(), 0);
        x.undo();
        x.offer(1, 0);
        x.hour();
        x.mint(0);
        x.person(1);
        due("deeds are no other", x.redo(), 0);
        x.undo();
        x.mend(1, 2, 9);
        due("another came behind", x.redo(), STATE);
        due("what came may be undone", x.undo(), 1);
        due("and done again", x.redo(), 0);
    }

    private static void fortyAreKept() {
        says("Terms 4", "40 at most are kept");
        for (int n : new int[] {39, 40, 41, 100}) {
            RefusedOnce x = land(4);
            for (int i = 1; i <= n; i++) x.mend(0, 2, (i + 3) % 13);
            int kept = x.count(4);
            due("kept of " + n, kept, Math.min(n, 40));
            for (int i = kept - 1; i >= 0; i--) due("undo", x.undo(), i);
            due("no more", x.undo(), STATE);
            for (int i = kept - 1; i >= 0; i--) due("redo", x.redo(), i);
            due("no more again", x.redo(), STATE);
        }
        fortyOfAllNumbers();
        RefusedOnce x = land(0);
        for (int i = 1; i <= 20; i++) x.mend(0, 0, i);
        for (int i = 1; i <= 20; i++) x.mend(0, 1, i);
        due("40", x.count(4), 40);
        x.mend(0, 4, 1);
        due("40 still", x.count(4), 40);
        while (x.count(4) > 0) x.undo();
        due("the oldest stands", x.of(0, 0), 1);
        due("the others are undone", x.of(0, 1), 0);
        due("the latest, too", x.of(0, 4), 3);
    }

    /** Changes of all people and all numbers, undone and done again one by one. */
    private static int fortyOfAllNumbers() {
        RefusedOnce x = land(20, 20, 20, 20, 20, 20);
        int[][] told = new int[75][];
        int n = 0;
        for (int i = 0; i < 75; i++) {
            int what = i * 5 % 7, number = what > 3 ? 0 : i % 6, v = (i * 3 + 1) % 5;
            int was = x.of(number, what);
            if (was == v) continue;
            told[n++] = new int[] {number, what, was, v};
            x.mend(number, what, v);
        }
        due("more than are kept", n > 45 ? 1 : 0, 1);
        for (int i = n - 1; i >= n - 40; i--) {
            due("as told", x.of(told[i][0], told[i][1]), told[i][3]);
            due("undo", x.undo(), i - n + 40);
            due("as it was", x.of(told[i][0], told[i][1]), told[i][2]);
        }
        due("no more", x.undo(), STATE);
        for (int i = n - 40; i < n; i++) {
            due("redo", x.redo(), n - 1 - i);
            due("as told again", x.of(told[i][0], told[i][1]), told[i][3]);
        }
        due("no more again", x.redo(), STATE);
        return n;
    }

    private static void deedsAreNone() {
        says("Terms 4", "deeds are none (WHOLE, CUT, HOUR by them, too)");
        RefusedOnce x = tell(land(4, 5), 1, 2, 0);
        x.undo();
        x.redo();
        due("one change", x.count(4), 1);
        x.offer(1, 0);
        x.offer(1, 1);
        x.offer(1, 2);
        x.mint(0);
        x.hour();
        x.image();
        x.back();
        due("one change still", x.count(4), 1);
        due("undo", x.undo(), 0);
        due("CUT as it was told ahead", x.of(0, 1), 0);
        due("WHOLE by deeds", x.of(0, 0), 3);
        due("WHOLE of the other by deeds", x.of(1, 0), 6);
        due("HOUR by a deed", x.of(0, 5), 1);
        due("no deed is undone", x.undo(), STATE);
        due("LED", x.led(0), 3);
    }

    private static void anImage() {
        says("Terms 4", "AN IMAGE keeps WHOLE, CUT, HOUR, what LED tells.");
        RefusedOnce x = tell(tell(land(4, 5), 1, 2, 0), 3, 1, 0);
        x.offer(1, 1);
        x.hour();
        due("image", x.image(), 1);
        x.offer(1, 0);
        x.offer(1, 1);
        x.offer(1, 2);
        x.mint(0);
        x.hour();
        int[] told = {9, 9, 9, 9, 1, 9, 9};
        for (int what = 0; what <= 6; what++) x.mend(0, what, told[what]);
        x.mend(1, 0, 20);
        x.mend(1, 1, 20);
        law(x, "7");
        due("back", x.back(), 1);
        int[] then = {3, 3, 9, 9, 1, 1, 9};
        for (int what = 0; what <= 6; what++) due("of(0, " + what + ")", x.of(0, what), then[what]);
        due("WHOLE of 1", x.of(1, 0), 5);
        due("CUT of 1", x.of(1, 1), 0);
        int[] led = {1, 1, 0, 1};
        for (int what = 0; what <= 3; what++) due("led(" + what + ")", x.led(what), led[what]);
        due("THE LAW is not kept", x.odds(1), 7);
        due("nor CHANGES", x.count(4), 2 + 7 + 2);
    }

    // ---- the row ALSO

    private static void alsoForged() {
        says("ALSO", "FORGED stays as it is told; as many count as there are CUT ones.");
        RefusedOnce x = tell(tell(land(5, 0), 1, 2, 0), 3, 5, 4);
        due("as told", x.of(0, 3), 5);
        due("count", x.of(0, 8), 2);
        x.offer(1, 2);
        due("as told behind an OFFER", x.of(0, 3), 5);
        due("count", x.of(0, 8), 1);
        due("of the taker, who is told of four", x.of(1, 8), 1);
        x.offer(1, 1);
        x.offer(1, 1);
        due("REFUSED ones are CUT: more count", x.of(0, 8), 3);
        x.mint(0);
        due("MINTED: fewer count", x.of(0, 8), 2);
        due("as told", x.of(0, 3), 5);
    }

    private static void alsoRound() {
        says("ALSO", "A ROUND: a REFUSED one goes over only to who has fewer than 20 CUT;");
        RefusedOnce x = tell(tell(land(2, 0), 2, 3, 12), 1, 0, 18);
        bytes(x, 0, 0, 1);
        due("to who has 18", x.round(0, -1), 1);
        x.mend(1, 1, 19);
        due("to who has 19", x.round(0, -1), 1);
        due("CLEANEST, too", x.cleanest(0), 4);
        bytes(x, 0, 0, 1, 0, 1);
        due("to who has 20 then", x.round(0, -1), NOT);
        x.mend(1, 1, 20);
        bytes(x, 0, 0, 1);
        due("to who has 20", x.round(0, -1), NOT);
        due("CLEANEST, too", x.cleanest(0), NOT);
        x.mend(1, 2, 5);
        due("one that is taken goes to him", x.round(0, -1), 0);
        due("CLEANEST, too", x.cleanest(0), 4);
    }

    private static void alsoCleanest() {
        says("ALSO", "CLEANEST: of all ways of kinds, HABIT deciding what is REFUSED.");
        RefusedOnce x = tell(tell(land(2, 0, 0), 1, 1, 0, 0), 2, 3, 12, 3);
        // WHOLE to 1 would be REFUSED; it comes back CUT from 1. CUT to 1 comes back CUT.
        bytes(x, 0, 0, 1, 1, 0);
        due("CUT and CUT", x.cleanest(0), 11);
        x.mend(0, 6, 12);
        due("by HABIT 12 he refuses still", x.cleanest(0), 11);
        x.mend(1, 2, 11);
        due("he takes: WHOLE and WHOLE, or CUT and CUT", x.cleanest(0), 11);
        x.mend(1, 0, 1);
        due("CUT for WHOLE", x.cleanest(0), 12);
        x.mend(0, 2, 12);
        x.mend(0, 6, 10);
        due("that is REFUSED by HABIT 10, and comes CUT", x.cleanest(0), 11);
    }

    private static void alsoPay() {
        says("ALSO", "PAY: what can't be counts as not REFUSED.");
        RefusedOnce x = tell(land(0, 0), 2, 3, 12);
        part("he has none: none", x.pay(1, 8, 0, 0), x.pay(1, 8, 0, 1), 1, 1);
        part("he has none: one", x.pay(1, 8, 1, 0), x.pay(1, 8, 1, 1), 0, 1);
        part("he has none: MEAN", x.mean(1, 8, 0), x.mean(1, 8, 1), 0, 1);
        x.mend(0, 0, 3);
        part("he has three", x.pay(1, 8, 3, 0), x.pay(1, 8, 3, 1), 1, 1);
        part("he has three: MEAN", x.mean(1, 8, 0), x.mean(1, 8, 1), 3, 1);
        x.mend(0, 1, 20);
        part("who has 20 CUT", x.pay(1, 8, 0, 0), x.pay(1, 8, 0, 1), 1, 1);
        x.mend(0, 1, 18);
        part("who has 18 CUT", x.pay(1, 8, 2, 0), x.pay(1, 8, 2, 1), 1, 1);
        x.mend(0, 1, 0);
        x.mend(1, 0, 20);
        part("to who has 20", x.pay(1, 8, 0, 0), x.pay(1, 8, 0, 1), 1, 1);
    }

    private static void alsoEnough() {
        says("ALSO", "ENOUGH: t from 0 to CUT.");
        RefusedOnce x = tell(tell(land(0), 1, 20), 3, 1);
        due("from 0", x.enough(0, 0), 0);
        due("to CUT", x.enough(0, 12), 20);
        x.mend(0, 1, 1);
        due("to one", x.enough(0, 12), 1);
        x.mend(0, 1, 0);
        due("to none", x.enough(0, 0), 0);
        due("not beyond", x.enough(0, 12), NOT);
    }

    private static void alsoBehind() {
        says("ALSO", "BEHIND: over all WHOLE OFFERS, bits by their places.");
        RefusedOnce x = tell(land(5, 5), 1, 5, 5);
        bytes(x, 0, cut(0, 1), whole(0, 1), cut(1, 0), whole(1, 0), cut(0, 1));
        bytes(x, 1);
        due("two are WHOLE: four ways", x.behind(0, 1, 0), 4);
        bytes(x, 1, 4, 5, 4, 7);
        due("both REFUSED", x.behind(0, 1, 0), 1);
        due("bits by places", x.behind(0, 1, 2), 2 + 8);
        due("CERTAIN by places", x.behind(0, 1, 3), 2 + 8);
        bytes(x, 0, cut(0, 1), cut(0, 1));
        bytes(x, 1);
        due("none is WHOLE: one way", x.behind(0, 1, 0), 1);
        due("none is REFUSED", x.behind(0, 1, 1), 0);
    }

    // ---- terms 5: bodies, shelves

    private static void bodiesAreFifty() {
        says("Terms 5", "BODIES 0 .. 49 are kept by call");
        RefusedOnce x = new RefusedOnce();
        for (int i = 0; i < 50; i++) due("body " + i, x.body(i % 8), i);
        for (int i = 0; i < 3; i++) due("one more", x.body(0), FULL);
        due("the first", x.act(0, 0, 5), 5);
        // 49 is a FRIEND.
        due("the last", x.act(49, 0, 5), 5 + 49 + 3);
        due("one behind it", x.act(50, 0, 5), 0);
        due("how many", x.count(5), 50);
    }

    private static void kinds() {
        says("Terms 5", "of KINDS: 0 NO; 1 FRIEND under NO; 2 BEGGAR under NO; 3 CHILD under BEGGAR; 4 BRIDE under FRIEND; 5 RICH"
            + " under CHILD; 6 HALF under NO; 7 MINT under HALF.");
        int[] above = {-1, 0, 0, 2, 1, 3, 0, 6};
        RefusedOnce x = new RefusedOnce();
        for (int kind = 0; kind < 8; kind++) {
            x.body(kind);
            x.keep(0, kind);
            for (int k = 0; k < 8; k++) {
                boolean isUnder = false;
                for (int at = kind; at >= 0; at = above[at]) isUnder |= at == k;
                due(kind + " taken for " + k, x.taken(0, k), isUnder ? kind : UNLIKE);
            }
        }
        due("kind 8", x.body(8), BAD);
        due("kind -1", x.body(-1), BAD);
    }

    private static void actsWrap() {
        says("Terms 5", "ACTS with x (an int that wraps)");
        RefusedOnce x = new RefusedOnce();
        for (int kind = 0; kind < 8; kind++) x.body(kind);
        for (int v : new int[] {LEAST, LEAST + 1, -1, 0, 1, 1 << 30, MOST - 1, MOST}) {
            due("NO offers " + v, x.act(0, 0, v), v);
            due("FRIEND offers " + v, x.act(1, 0, v), v + 1 + 3);
            due("BEGGAR notches " + v, x.act(2, 1, v), -((v + 2) * 2));
            due("CHILD takes " + v, x.act(3, 2, v), (v ^ 3) * 3);
            due("CHILD notches " + v, x.act(3, 1, v), -((v + 1 + 3) * 2));
            due("BRIDE tells " + v, x.act(4, 3, v), (v + 4 + 3) * 2 - (1 ^ 4) ^ 5);
            due("RICH takes " + v, x.act(5, 2, v), (v ^ 5) * 3 - 7);
            due("RICH tells " + v, x.act(5, 3, v), -((v + 1 + 5) * 2) - ((1 ^ 5) * 3 - 7) + 1);
            due("HALF offers " + v, x.act(6, 0, v), (v + 6) * 2);
            due("MINT notches " + v, x.act(7, 1, v), ((v + 7) * 2 - 1) * 2 + (2 ^ 7));
        }
    }

    private static void theNextKindAboveThatHasOne() {
        says("Terms 5", "offers(..) and so on: the body of its own KIND, or of the next KIND above that has one; super: from the"
            + " KIND above the body's on.");
        // By kinds and acts: the numbers of the bodies that run, as they begin.
        int[][][] all = {
            {{1}, {10, 1}, {11}, {2, 10, 1, 11}},
            {{20, 1}, {10, 20, 1}, {11}, {2, 10, 20, 1, 11}},
            {{1}, {30, 10, 1}, {11}, {2, 30, 10, 1, 11}},
            {{1}, {41, 30, 10, 1}, {40, 11}, {2, 41, 30, 10, 1, 40, 11}},
            {{20, 1}, {10, 20, 1}, {11}, {50, 2, 10, 20, 1, 11}},
            {{1}, {41, 30, 10, 1}, {60, 40, 11, 1}, {61, 2, 41, 30, 10, 1, 60, 40, 11, 1}},
            {{70, 1}, {10, 70, 1}, {11}, {2, 10, 70, 1, 11}},
            {{81, 70, 1}, {80, 10, 81, 70, 1, 11}, {11}, {2, 80, 10, 81, 70, 1, 11, 11}}};
        RefusedOnce x = new RefusedOnce();
        for (int kind = 0; kind < 8; kind++) {
            x.body(kind);
            for (int act = 0; act < 4; act++) {
                x.act(kind, act, 9);
                int[] ran = all[kind][act];
                due("how many of act " + act + " of " + kind, x.count(6), ran.length);
                for (int i = 0; i <= ran.length; i++) {
                    due("trace " + i + " of act " + act + " of " + kind, x.trace(i), i < ran.length ? ran[i] : BAD);
                }
            }
        }
    }

    private static void theTrace() {
        says("Terms 5", "THE TRACE: numbers of the bodies that ran in the latest act(), as they began; the first 24 are kept.");
        RefusedOnce x = new RefusedOnce();
        x.body(5);
        x.body(0);
        due("none ahead of any", x.trace(0), BAD);
        x.act(0, 3, 1);
        due("the first that began", x.trace(0), 61);
        due("the last that began", x.trace(9), 1);
        for (int i : new int[] {LEAST, -1, 10, 23, 24, 25, MOST}) due("trace(" + i + ")", x.trace(i), BAD);
        x.act(1, 2, 1);
        due("the latest alone", x.trace(0), 11);
        due("nothing is left of the one ahead", x.trace(1), BAD);
    }

    private static void shelvesHoldNothingAtFirst() {
        says("Terms 5", "SHELVES 0 .. 5 each hold nothing (at first), a BODY, or a ROW");
        RefusedOnce x = new RefusedOnce();
        x.body(3);
        for (int shelf = 0; shelf < 6; shelf++) {
            due("at first " + shelf, x.put(shelf, 0, 1), NOTHING);
            due("at first " + shelf, x.taken(shelf, 0), NOTHING);
            due("a BODY", x.keep(shelf, 0), 1);
            due("is there", x.taken(shelf, 0), 3);
            due("no ROW then", x.put(shelf, 0, 1), UNLIKE);
            due("a ROW", x.row(shelf, 0, 1), 1);
            due("is there", x.put(shelf, 0, 1), 1);
            due("no BODY then", x.taken(shelf, 0), UNLIKE);
            due("nothing", x.keep(shelf, -1), 1);
            due("is there", x.taken(shelf, 0), NOTHING);
        }
        for (int shelf : NO_SHELF) {
            due("row on " + shelf, x.row(shelf, 0, 1), BAD);
            due("keep on " + shelf, x.keep(shelf, -1), BAD);
            due("put on " + shelf, x.put(shelf, 0, 1), BAD);
            due("element on " + shelf, x.element(shelf, 0), NO);
            due("taken on " + shelf, x.taken(shelf, 0), BAD);
            due("shift from " + shelf, x.shift(shelf, 0, 0, 0, 0), BAD);
            due("shift to " + shelf, x.shift(0, 0, shelf, 0, 0), BAD);
            due("people on " + shelf, x.people(shelf, 0, 1), BAD);
            due("evening on " + shelf, x.evening(shelf, 0, 0), BAD);
            due("round on " + shelf, x.round(shelf, -1), BAD);
            due("cleanest on " + shelf, x.cleanest(shelf), BAD);
            due("hands on " + shelf, x.hands(shelf, 0), VOID);
            due("behind, the evening on " + shelf, x.behind(shelf, 0, 0), BAD);
            due("behind, told on " + shelf, x.behind(0, shelf, 0), BAD);
        }
    }

    private static void rowsOfAtMostSixty() {
        says("Terms 5", "of 0 bytes, 1 shorts, 2 ints, 3 longs, 4 booleans, of 0 .. 60 elements, 0 at first (false)");
        RefusedOnce x = new RefusedOnce();
        for (int sort = 0; sort <= 4; sort++) {
            due("of 0", x.row(0, sort, 0), 1);
            due("has no place", x.put(0, 0, 1), NO_PLACE);
            due("of 60", x.row(0, sort, 60), 1);
            for (int i = 0; i < 60; i += 59) {
                due("0 at first", x.element(0, i), 0);
                due("put", x.put(0, i, -1), 1);
                due("is there", x.element(0, i), sort == 4 ? 1 : -1);
            }
            due("place 60", x.put(0, 60, 1), NO_PLACE);
            due("place -1", x.put(0, -1, 1), NO_PLACE);
            for (int n : new int[] {61, MOST}) due("of " + n, x.row(0, sort, n), BAD);
            for (int n : new int[] {-1, LEAST}) due("of " + n, x.row(0, sort, n), NO_SIZE);
            due("is there still", x.element(0, 59), sort == 4 ? 1 : -1);
            due("a new one", x.row(0, sort, 60), 1);
            due("is 0 again", x.element(0, 59), 0);
        }
        for (int sort : new int[] {LEAST, -1, 5, MOST}) due("sort " + sort, x.row(0, sort, 1), BAD);
    }

    private static void lowestBits() {
        says("Terms 5", "what is put in keeps its lowest bits (a boolean: whether it is not 0; 1 or 0)");
        long[] values = {0, 1, -1, 2, 127, 128, 255, 256, -128, -129, 32767, 32768, 65535, 65536, -32768, -32769, MOST, MOST + 1L,
            0xffffffffL, 1L << 32, LEAST, LEAST - 1L, Long.MAX_VALUE, Long.MIN_VALUE, 0x123456789abcdef0L};
        RefusedOnce x = new RefusedOnce();
        for (int sort = 0; sort <= 4; sort++) x.row(sort, sort, 2);
        for (long v : values) {
            long[] kept = {(byte) v, (short) v, (int) v, v, v != 0 ? 1 : 0};
            for (int sort = 0; sort <= 4; sort++) {
                due("put", x.put(sort, 1, v), 1);
                due(v + " in sort " + sort, x.element(sort, 1), kept[sort]);
            }
        }
        for (int sort = 0; sort <= 4; sort++) due("beside it", x.element(sort, 0), 0);
    }

    private static void hostsRefusals() {
        says("Terms 5", "The host's REFUSALS: -11 nothing is there where something is wanted; -12 it is of another kind; -13 a"
            + " place that is not there; -14 a size below 0.");
        RefusedOnce x = new RefusedOnce();
        x.row(1, 0, 2);
        due("nothing is there", x.put(0, 0, 1), -11);
        x.body(1);
        x.keep(0, 0);
        due("it is of another kind", x.put(0, 0, 1), -12);
        due("a BODY of another kind", x.taken(0, 2), -12);
        due("a place that is not there", x.put(1, 2, 1), -13);
        due("a size below 0", x.row(1, 0, -1), -14);
    }

    private static void peopleFromARow() {
        says("Terms 5", "PEOPLE FROM A ROW of bytes, from place i on: by threes WHOLE, CUT, PRIDE: n of them");
        RefusedOnce x = new RefusedOnce();
        bytes(x, 0, 99, 20, 19, 12, 0, 1, 2, 3, 4, 5);
        due("two from place 1 on", x.people(0, 1, 2), 2);
        int[] told = {20, 19, 12, 0, 0, 1, 2, 0};
        for (int i = 0; i < 8; i++) due("of(" + i / 4 + ", " + i % 4 + ")", x.of(i / 4, i % 4), told[i]);
        due("how many", x.count(0), 2);
        due("the last three", x.people(0, 7, 1), 1);
        due("PRIDE of the last", x.of(2, 2), 5);
    }

    private static void itEndsWhere() {
        says("Terms 5", "it ends where the row is missing, ends (within a three, too), one is not as it may be, or PEOPLE are"
            + " FULL: those ahead came.");
        due("missing", new RefusedOnce().people(0, 0, 6), 0);
        for (int size = 0; size <= 19; size++) {
            RefusedOnce x = new RefusedOnce();
            x.row(0, 0, size);
            due("a row of " + size, x.people(0, 0, 6), Math.min(6, size / 3));
            due("PEOPLE", x.count(0), Math.min(6, size / 3));
        }
        int[] most = {20, 20, 12};
        for (int i = 0; i < 9; i++) {
            for (int wrong : new int[] {most[i % 3] + 1, -1, 127, -128}) {
                RefusedOnce x = new RefusedOnce();
                bytes(x, 0, 1, 2, 3, 4, 5, 6, 7, 8, 9);
                x.put(0, i, wrong);
                due("place " + i + " holds " + wrong, x.people(0, 0, 6), i / 3);
                due("those ahead came", x.count(0), i / 3);
                x.put(0, i, most[i % 3]);
                due("place " + i + " holds the most", x.people(0, i / 3 * 3, 1), 1);
            }
        }
        for (int there = 0; there <= 6; there++) {
            RefusedOnce x = land(times(there, 1));
            x.row(0, 0, 60);
            due("of seven, " + there + " were there", x.people(0, 0, 6), 6 - there);
            due("FULL", x.people(0, 0, 6), 0);
            due("PEOPLE", x.count(0), 6);
        }
        RefusedOnce x = new RefusedOnce();
        x.row(0, 0, 60);
        due("the last three", x.people(0, 57, 6), 1);
        for (int i : new int[] {58, 59, 60, 61, MOST - 2, MOST - 1, MOST}) due("from " + i, x.people(0, i, 6), 0);
    }

    // ---- the row of the answers

    private static void theOneNamedFirst() {
        says("Answers", "Answers, of several the one named first: BAD (-1): no such number, or it is not as said; NOT (-2): as"
            + " told; FULL (-3); STATE (-5): as told; -11 to -14.");
        RefusedOnce x = land(0, 0, 0, 0, 0, 0);
        for (int i = 0; i < 50; i++) x.body(0);
        for (int i = 0; i < 120; i++) x.feed('1');
        due("person: BAD, then FULL", x.person(21), BAD);
        due("person: FULL", x.person(20), FULL);
        due("feed: BAD, then FULL", x.feed(256), BAD);
        due("feed: FULL", x.feed(255), FULL);
        due("body: BAD, then FULL", x.body(8), BAD);
        due("body: FULL", x.body(7), FULL);
        due("offer: BAD, then STATE", x.offer(1, 3), BAD);
        due("offer: STATE", x.offer(1, 2), STATE);
        due("mint: BAD, then STATE", x.mint(6), BAD);
        due("mint: STATE", x.mint(5), STATE);
        due("row: BAD, then -14", x.row(0, 5, -1), BAD);
        due("row on no shelf: BAD, then -14", x.row(6, 0, -1), BAD);
        due("row: -14", x.row(0, 4, -1), NO_SIZE);
        x.row(1, 1, 2);
        x.row(2, 0, 2);
        x.keep(3, 0);
        due("people: BAD, then -12", x.people(1, 0, 7), BAD);
        due("people: -12, then those who came", x.people(1, -1, 1), UNLIKE);
        due("later: BAD, then -11", x.later(0, 21, 0, 0), BAD);
        due("later: BAD of one, then -12", x.later(1, 0, 6, 0), BAD);
        due("later: BAD of what, then -12", x.later(1, 0, 0, 3), BAD);
        due("evening: BAD of n, then -11", x.evening(0, -1, 0), BAD);
        due("evening: BAD of what, then -12", x.evening(3, 0, 3), BAD);
        due("round: BAD, then -11", x.round(0, -2), BAD);
        due("round: -11", x.round(0, 0), NOTHING);
        due("round: -12", x.round(1, 0), UNLIKE);
        due("cleanest: -11", x.cleanest(0), NOTHING);
        due("cleanest: -12", x.cleanest(3), UNLIKE);
        due("enough: BAD, then NOT", x.enough(6, 12), BAD);
        due("enough: BAD of x, then NOT", x.enough(0, 13), BAD);
        due("dowry: BAD, then NOT", x.dowry(64, 1), BAD);
        due("dowry: BAD of n, then NOT", x.dowry(1, 100), BAD);
        due("behind: BAD of what, then -11", x.behind(0, 0, 4), BAD);
        due("behind: BAD of told, then -11", x.behind(0, 6, 0), BAD);
        due("put: BAD, then -11", x.put(6, 0, 1), BAD);
        due("put: -11, then -13", x.put(0, -1, 1), NOTHING);
        due("put: -12, then -13", x.put(3, -1, 1), UNLIKE);
        due("shift: BAD, then -11", x.shift(0, 0, 6, 0, 0), BAD);
        due("shift: -11, then -12", x.shift(3, 0, 0, 0, 0), NOTHING);
        due("shift: -12, then -13", x.shift(1, -1, 2, 0, -1), UNLIKE);
        due("taken: BAD, then -11", x.taken(0, 8), BAD);
        due("taken: BAD, then -12", x.taken(1, 8), BAD);
        due("keep: BAD", x.keep(0, 50), BAD);
    }

    private static RefusedOnce amidst() {
        RefusedOnce x = tell(tell(tell(land(0, 3, 20, 5), 1, 0, 4, 20, 20), 2, 1, 5, 6, 7), 3, 2, 2, 2, 2);
        x.mend(0, 5, 7);
        x.mend(0, 6, 8);
        x.image();
        x.offer(13, 0);
        x.offer(13, 1);
        x.hour();
        x.undo();
        x.undo();
        law(x, "p+h%5-b/3");
        x.feed('p');
        bytes(x, 0, whole(1, 3), whole(0, 1), cut(1, 0));
        bytes(x, 1, 1, 0, 1, 3, 2, 1);
        x.row(2, 3, 4);
        x.put(2, 1, Long.MIN_VALUE);
        x.body(5);
        x.keep(3, 0);
        x.act(0, 3, 4);
        return x;
    }

    /** The refused calls of amidst(), each with what it answers. */
    private static long refused(RefusedOnce x, int i) {
        return switch (i) {
            case 0 -> x.person(-1) - BAD;
            case 1 -> x.person(21) - BAD;
            case 2 -> x.people(2, 0, 1) - UNLIKE;
            case 3 -> x.people(0, 0, 0) - BAD;
            case 4 -> x.people(0, -1, 1);
            case 5 -> x.people(5, 0, 1);
            case 6 -> x.mend(0, 0, 21) - BAD;
            case 7 -> x.mend(4, 0, 1) - BAD;
            case 8 -> x.mend(1, 5, 1) - BAD;
            case 9 -> x.mend(0, 7, 1) - BAD;
            case 10 -> x.feed(-1) - BAD;
            case 11 -> x.feed(256) - BAD;
            case 12 -> x.offer(3, 0) - STATE;
            case 13 -> x.offer(3, 1) - STATE;
            case 14 -> x.offer(3, 2) - STATE;
            case 15 -> x.offer(12, 0) - STATE;
            case 16 -> x.offer(12, 1) - STATE;
            case 17 -> x.offer(12, 2) - STATE;
            case 18 -> x.offer(31, 1) - STATE;
            case 19 -> x.offer(11, 0) - BAD;
            case 20 -> x.offer(13, 3) - BAD;
            case 21 -> x.offer(14, 0) - BAD;
            case 22 -> x.mint(0) - STATE;
            case 23 -> x.mint(2) - STATE;
            case 24 -> x.mint(4) - BAD;
            case 25 -> x.body(8) - BAD;
            case 26 -> x.keep(2, 1) - BAD;
            case 27 -> x.keep(2, -2) - BAD;
            case 28 -> x.row(2, 5, 1) - BAD;
            case 29 -> x.row(2, 3, 61) - BAD;
            case 30 -> x.row(2, 3, -1) - NO_SIZE;
            case 31 -> x.put(2, 4, 1) - NO_PLACE;
            case 32 -> x.put(2, -1, 1) - NO_PLACE;
            case 33 -> x.put(3, 0, 1) - UNLIKE;
            case 34 -> x.put(4, 0, 1) - NOTHING;
            case 35 -> x.shift(0, 1, 1, 0, 3) - NO_PLACE;
            case 36 -> x.shift(0, 0, 1, 4, 3) - NO_PLACE;
            case 37 -> x.shift(0, 0, 2, 0, 1) - UNLIKE;
            case 38 -> x.shift(0, 0, 4, 0, 1) - NOTHING;
            case 39 -> x.later(0, 21, 1, 0) - BAD;
            case 40 -> x.round(1, -2) - BAD;
            case 41 -> x.drawn(1, 0, 0) - BAD;
            case 42 -> x.led(4) - BAD;
            case 43 -> x.trace(24) - BAD;
            case 44 -> x.taken(3, 1) - UNLIKE;
            default -> x.count(7) - BAD;
        };
    }

    private static void whatIsAnsweredSoChangesNothing() {
        says("Answers", "What is answered so changes nothing.");
        String want = picture(amidst());
        for (int i = 0; i <= 45; i++) {
            RefusedOnce x = amidst();
            due("refused call " + i, refused(x, i), 0);
            same("behind refused call " + i, picture(x), want);
        }
        RefusedOnce x = new RefusedOnce();
        String empty = picture(new RefusedOnce());
        due("undo", x.undo(), STATE);
        due("redo", x.redo(), STATE);
        due("back", x.back(), STATE);
        due("keep", x.keep(0, 0), BAD);
        same("a new one is as it was", picture(x), empty);
        RefusedOnce full = land(1, 1, 1, 1, 1, 1), like = land(1, 1, 1, 1, 1, 1);
        due("FULL of PEOPLE", full.person(2), FULL);
        same("is as it was", picture(full), picture(like));
    }

    private static void inThoughtNothingChanges() {
        says("Terms 2", "IN THOUGHT, from now");
        String want = picture(amidst());
        RefusedOnce x = amidst();
        for (int what = 0; what < 3; what++) {
            due("later", x.later(0, 20, 1, what) >= 0 ? 1 : 0, 1);
            due("evening", x.evening(0, 20, what) >= NOT ? 1 : 0, 1);
        }
        x.round(1, -1);
        x.cleanest(1);
        x.pay(13, 8, 1, 0);
        x.mean(13, 8, 0);
        x.stays(2, 0);
        x.hands(1, 0);
        x.test(1, 2, 0);
        x.enough(1, 12);
        x.honest(1, 21, 0);
        x.dowry(15, 9);
        x.richest(1);
        for (int what = 0; what < 4; what++) x.behind(0, 1, what);
        x.drawn(1, 3030, 0);
        x.odds(13);
        same("all is as it was", picture(x), want);
    }

    // ---- the rows ahead of the promises

    private static void fractionsInLowestTerms() {
        says("SO THAT NOTHING IS READ TWO WAYS", "All fractions are in lowest terms (0 by 1, where what is above the line is 0).");
        RefusedOnce x = tell(tell(tell(land(9, 0), 1, 10, 0), 3, 4, 0), 2, 3, 8);
        part("8 by 12", x.pay(1, 1, 1, 0), x.pay(1, 1, 1, 1), 2, 3);
        part("PAY: 0 above", x.pay(1, 1, 2, 0), x.pay(1, 1, 2, 1), 0, 1);
        part("MEAN: 16 by 12", x.mean(1, 2, 0), x.mean(1, 2, 1), 4, 3);
        part("MEAN: 0 above", x.mean(10, 8, 0), x.mean(10, 8, 1), 0, 1);
        part("AT RANDOM: 4 by 12", x.stays(1, 0), x.stays(1, 1), 1, 3);
        x.mend(1, 2, 12);
        part("AT RANDOM: 0 above", x.stays(1, 0), x.stays(1, 1), 0, 1);
        part("AT RANDOM: 0 above, twice", x.stays(2, 0), x.stays(2, 1), 0, 1);
        x.mend(1, 2, 0);
        part("AT RANDOM: 12 by 12", x.stays(1, 0), x.stays(1, 1), 1, 1);
        part("TEST: 4 by 10", x.test(0, 1, 0), x.test(0, 1, 1), 2, 5);
        part("TEST: 0 above", x.test(0, 0, 0), x.test(0, 0, 1), 0, 1);
        part("TEST: all", x.test(0, 7, 0), x.test(0, 7, 1), 1, 1);
        part("HONEST: 6 by 45", x.honest(0, 22, 0), x.honest(0, 22, 1), 2, 15);
        part("HONEST: 0 above", x.honest(0, 23, 0), x.honest(0, 23, 1), 0, 1);
    }

    private static void twoUnlikePeople() {
        says("Ahead of the calls `person`", "(ab: 10 times by whom, and to whom, unlike)");
        RefusedOnce x = land(5, 5, 5);
        for (int ab = -40; ab <= 120; ab++) {
            int by = ab / 10, to = ab % 10;
            boolean isRight = ab >= 0 && by < 3 && to < 3 && by != to;
            due("odds(" + ab + ")", x.odds(ab), isRight ? 3 : BAD);
        }
        for (int ab : new int[] {-21, -12, -1, 0, 3, 11, 22, 30, 102, 1001, LEAST, MOST}) {
            due("pay(" + ab + ")", x.pay(ab, 0, 0, 0), NO);
            due("mean(" + ab + ")", x.mean(ab, 0, 0), NO);
            due("offer(" + ab + ")", x.offer(ab, 0), BAD);
        }
        RefusedOnce six = tell(land(5, 5, 5, 5, 5, 5), 2, 1, 3, 5, 7, 9, 11);
        int[] less = {0, 0, 1, 1, 2, 2};
        for (int by = 0; by < 6; by++) {
            for (int to = 0; to < 6; to++) {
                if (by == to) continue;
                int ab = 10 * by + to, twelfths = Math.max(0, 1 + 2 * to - less[by]), shared = 12;
                while (shared > 1 && (twelfths % shared != 0 || 12 % shared != 0)) shared--;
                due("odds(" + ab + ")", six.odds(ab), twelfths);
                part("pay(" + ab + ")", six.pay(ab, 1, 1, 0), six.pay(ab, 1, 1, 1), twelfths / shared, 12 / shared);
                part("mean(" + ab + ")", six.mean(ab, 1, 0), six.mean(ab, 1, 1), twelfths / shared, 12 / shared);
            }
        }
        due("by 5 to 6", six.odds(56), BAD);
    }

    private static void anEveningInThought() {
        says("Ahead of the calls `later`", "(a ROW of bytes on a SHELF; BAD, -11, -12; n 0 .. 20)");
        RefusedOnce x = land(5, 5);
        x.body(0);
        x.keep(1, 0);
        for (int shelf = 0; shelf < 6; shelf++) {
            if (shelf > 1) x.row(shelf, shelf - 2, 2);
            int want = shelf == 0 ? NOTHING : shelf == 2 ? 0 : UNLIKE;
            due("evening on " + shelf, x.evening(shelf, 20, 0), want);
            due("later on " + shelf, x.later(shelf, 20, 0, 1), want);
            due("round on " + shelf, x.round(shelf, -1), want);
            due("cleanest on " + shelf, x.cleanest(shelf), shelf == 2 ? NOT : want);
        }
        x.row(3, 4, 2);
        due("booleans", x.evening(3, 20, 0), UNLIKE);
        for (int n : new int[] {LEAST, -1, 21, MOST}) {
            due("later, n " + n, x.later(2, n, 0, 0), BAD);
            due("evening, n " + n, x.evening(2, n, 0), BAD);
        }
        for (int n : new int[] {0, 20}) {
            due("later, n " + n, x.later(2, n, 0, 0), 5);
            due("evening, n " + n, x.evening(2, n, 0), 0);
        }
    }

    private static void parts() {
        says("Ahead of the calls `pay`", "(part 0 above, 1 below the line; Long.MIN_VALUE: BAD)");
        RefusedOnce x = tell(tell(land(5, 0), 1, 4, 0), 3, 1, 0);
        part("pay", x.pay(1, 1, 1, 0), x.pay(1, 1, 1, 1), 1, 4);
        part("mean", x.mean(1, 1, 0), x.mean(1, 1, 1), 1, 4);
        part("stays", x.stays(1, 0), x.stays(1, 1), 3, 4);
        part("test", x.test(0, 1, 0), x.test(0, 1, 1), 1, 4);
        part("honest", x.honest(0, 11, 0), x.honest(0, 11, 1), 1, 4);
        for (int part : new int[] {LEAST, -1, 2, MOST}) {
            due("pay, part " + part, x.pay(1, 1, 1, part), NO);
            due("mean, part " + part, x.mean(1, 1, part), NO);
            due("stays, part " + part, x.stays(1, part), NO);
            due("test, part " + part, x.test(0, 1, part), NO);
            due("honest, part " + part, x.honest(0, 11, part), NO);
        }
    }

    private static void ofTheEveningFirst() {
        says("Ahead of the calls `behind`", "(the EVENING and what is told on SHELVES; BAD, -11, -12, of the EVENING first)");
        RefusedOnce x = land(5, 5);
        x.row(1, 0, 0);
        x.row(2, 2, 0);
        x.body(0);
        x.keep(3, 0);
        int[][] want = {
            {NOTHING, NOTHING, NOTHING, NOTHING},
            {NOTHING, 1, UNLIKE, UNLIKE},
            {UNLIKE, UNLIKE, UNLIKE, UNLIKE},
            {UNLIKE, UNLIKE, UNLIKE, UNLIKE}};
        for (int evening = 0; evening < 4; evening++) {
            for (int told = 0; told < 4; told++) {
                due("behind(" + evening + ", " + told + ")", x.behind(evening, told, 0), want[evening][told]);
            }
        }
        due("BAD ahead of all", x.behind(0, 6, 0), BAD);
        due("BAD of what ahead of all", x.behind(2, 0, 4), BAD);
        due("one SHELF for both", x.behind(1, 1, 0), 1);
    }

    public static void main(String[] args) throws IOException, IllegalAccessException {
        run(TermsBoundariesTest.class, args, 0);
    }
}
