import java.io.IOException;

/** For each sentence on THE LAW that names a boundary case a test of its own. */
public final class LawBoundariesTest extends Sentences {

    private static void right(String... texts) {
        for (String text : texts) due("law of " + text, law(new RefusedOnce(), text), 1);
    }

    private static void fault(String text, int place) {
        due("law of " + text, law(new RefusedOnce(), text), -100 - place);
    }

    /** In how many of twelve: p 9, b 4, w 7, c 2, h 10, n 3. */
    private static void gives(String text, int want) {
        RefusedOnce x = tell(tell(land(5, 7), 1, 0, 2), 2, 4, 9);
        x.mend(0, 5, 10);
        due("law of " + text, law(x, text), 1);
        due("odds by " + text, x.odds(1), want);
    }

    /** The text so many times, parted by what stands between. */
    private static String many(String text, int n, String between) {
        StringBuilder all = new StringBuilder(text);
        for (int i = 1; i < n; i++) all.append(between).append(text);
        return all.toString();
    }

    private static void atMost120Bytes() {
        says("Terms 1", "THE LAW is a TEXT by THE TAPE (at most 120 bytes)");
        RefusedOnce x = land(5, 5);
        String text = many("1", 60, "+");
        due("how long", text.length(), 119);
        for (int i = 0; i < 119; i++) due("feed", x.feed(text.charAt(i)), i + 1);
        due("the 120th", x.feed('0'), 120);
        due("the 121st", x.feed('0'), FULL);
        due("as many as there were", x.count(3), 120);
        due("the first 120 are THE LAW", x.law(), 1);
        due("59 and 10 are held at 12", x.odds(1), 12);
        String less = many("1", 59, "+") + "-58";
        due("how long", less.length(), 120);
        due("a law of 120", law(x, less), 1);
        due("to the last byte", x.odds(1), 1);
        String all = "!0" + many("+1-1", 29, "") + "+1";
        due("how long", all.length(), 120);
        due("a law of which each byte counts", law(x, all), 1);
        due("to the last byte", x.odds(1), 2);
    }

    private static void linesOneOrMore() {
        says("Terms 1", "LINES, one or more, parted by ; .");
        right("1", "1;2", "1;2;3", "0?1;2", "1;0?2", many("1", 60, ";"));
        fault("", 0);
        fault(";", 0);
        fault(";1", 0);
        fault("1;", 2);
        fault("1;;2", 2);
        fault("1;2;", 4);
        fault("1:2", 1);
        fault("1\n2", 1);
        fault("1,2", 1);
        fault("(1;2)", 2);
    }

    private static void aLineHasOneOrTwo() {
        says("Terms 1", "LINE: E, or E ? E (what counts if the first is not 0).");
        right("1", "1?2", "p|b?w&c", "1?2;3?4", "(1)?(2)");
        fault("?", 0);
        fault("?1", 0);
        fault("1?", 2);
        fault("1?;", 2);
        fault("1??2", 2);
        fault("1?2?3", 3);
        fault("(1?2)", 2);
        gives("1?5", 5);
        gives("-1?5", 5);
        gives("0?5", 0);
    }

    private static void eIsOneOrMoreA() {
        says("Terms 1", "E = A { | A }.");
        right("1", "1|2", "1|2|3", many("1", 60, "|"));
        fault("|1", 0);
        fault("1|", 2);
        fault("1||2", 2);
    }

    private static void aIsOneOrMoreB() {
        says("Terms 1", "A = B { & B }.");
        right("1", "1&2", "1&2&3", "1|2&3|4", many("1", 60, "&"));
        fault("&1", 0);
        fault("1&", 2);
        fault("1&&2", 2);
        fault("1|&2", 2);
        gives("(1|0&0)+5", 6);
    }

    private static void bIsOneOrTwoS() {
        says("Terms 1", "B = S, or S < S, S = S, S > S.");
        right("1", "1<2", "1=2", "1>2", "1<2&3=4|5>6", "(1<2)<3", "1<(2<3)");
        fault("<1", 0);
        fault("1<", 2);
        fault("1<2<3", 3);
        fault("1<2=3", 3);
        fault("1=2>3", 3);
        fault("1>2<3", 3);
        fault("1<2+3>4", 5);
        fault("1<=2", 2);
        fault("1==2", 2);
        fault("1&2<3<4", 5);
        gives("5*(1<2&3>2)", 5);
    }

    private static void sIsOneOrMoreP() {
        says("Terms 1", "S = P { + P, - P }.");
        right("1", "1+2", "1-2", "1+2-3+4", "1--2", "1+-2", many("1", 60, "-"));
        fault("+1", 0);
        fault("1+", 2);
        fault("1++2", 2);
        fault("1-", 2);
        fault("1-+2", 2);
        gives("9-3-2", 4);
        gives("2-3+4", 3);
        gives("1+1<3", 1);
    }

    private static void pIsOneOrMoreO() {
        says("Terms 1", "P = O { * O, / O, % O }.");
        right("1", "1*2", "1/2", "1%2", "1*2/3%4", "1*-2", "1/!2", many("1", 60, "*"));
        fault("*1", 0);
        fault("/1", 0);
        fault("%1", 0);
        fault("1*", 2);
        fault("1/", 2);
        fault("1%", 2);
        fault("1**2", 2);
        fault("1*/2", 2);
        gives("8/2/2", 2);
        gives("9%5*2", 8);
        gives("2+3*2", 8);
        gives("9-2*3", 3);
    }

    private static void aNumberHasOneToFourDigits() {
        says("Terms 1", "O = a number (1 to 4 digits)");
        right("0", "9", "12", "123", "1234", "9999", "0000", "0001", "1234+1234", "p?1234", "(1234)");
        fault("12345", 4);
        fault("00000", 4);
        fault("p+12345", 6);
        fault("(12345)", 5);
        fault("1?12345", 6);
        fault("1;12345", 6);
        fault("1234p", 4);
        fault("1234(", 4);
        fault("1.5", 1);
        gives("9999/1000", 9);
        gives("0012", 12);
        gives("10", 10);
        gives("1000-991", 9);
    }

    private static void anOperand() {
        says("Terms 1", "a NAME, ! O, - O, ( E )");
        right("p", "!p", "-p", "(p)", "!-p", "-!p", "!(-p)", "(p|b)", "(1<2)");
        fault("!", 1);
        fault("-", 1);
        fault("(", 1);
        fault("(1", 2);
        fault("()", 1);
        fault("(1))", 3);
        fault(")", 0);
        fault("1)", 1);
        fault("!)", 1);
        fault("(1]", 2);
        fault("!*", 1);
        fault("p(1)", 1);
        fault("(1)p", 3);
        fault("(1)(2)", 3);
        fault("p!b", 1);
        gives("!0*5", 5);
        gives("!1+5", 5);
        gives("-2*-3", 6);
        gives("-2+9", 7);
    }

    private static void noBlanks() {
        says("Terms 1", "No blanks.");
        fault(" 1", 0);
        fault("1 ", 1);
        fault("1 +2", 1);
        fault("1+ 2", 2);
        fault("1; 2", 2);
        fault("( 1)", 1);
        fault("\t1", 0);
        fault("1\n", 1);
        fault("1" + (char) 160, 1);
    }

    private static void names() {
        says("Terms 1", "NAMES: p PRIDE of whom a coin is offered to, b PRIDE of who offers it, w WHOLE, c CUT of whom it is"
            + " offered to, h HOUR, n NOTCH.");
        gives("p", 9);
        gives("b", 4);
        gives("w", 7);
        gives("c", 2);
        gives("h", 10);
        gives("n", 3);
        for (char letter = 0; letter < 256; letter++) {
            boolean isName = "pbwchn".indexOf(letter) >= 0, isDigit = letter >= '0' && letter <= '9';
            boolean goesOn = letter == '(' || letter == '!' || letter == '-';
            due("law of the byte " + (int) letter, law(new RefusedOnce(), "" + letter),
                isName || isDigit ? 1 : goesOn ? -101 : -100);
        }
        fault("pp", 1);
        fault("p1", 1);
        fault("1p", 1);
        RefusedOnce x = tell(tell(land(20, 20), 1, 20, 20), 2, 12, 12);
        x.mend(0, 5, 11);
        x.mend(0, 4, 4);
        String[] most = {"p", "b", "w/2", "c/2", "h", "n"};
        int[] want = {12, 12, 10, 10, 11, 4};
        for (int i = 0; i < most.length; i++) {
            law(x, most[i]);
            due("the most of " + most[i], x.odds(1), want[i]);
        }
        x = tell(tell(tell(x, 0, 0, 0), 1, 0, 0), 2, 0, 0);
        x.mend(0, 5, 0);
        x.mend(0, 4, 0);
        for (int i = 0; i < most.length; i++) {
            law(x, most[i] + "+1");
            due("the least of " + most[i], x.odds(1), 1);
        }
    }

    private static void atMostSixAreOpen() {
        says("Terms 1", "At most 6 of ( ! - ahead of an O are open at once.");
        right("((((((1))))))", "!!!!!!1", "------1", "(!-(!-1))", "!(((((1)))))", "-(!(-(1)))");
        right("((((((1+2))))))", "((((((1-2))))))", "((((((1))))))+((((((2))))))", "!!!!!!1-!!!!!!1", "1-((((((2))))))");
        right("1?!!!!!!2;------3", "(1+(((((2)))))-(((((3))))))", "!(1)+!!!!!!1");
        fault("(((((((1)))))))", 6);
        fault("!!!!!!!1", 6);
        fault("-------1", 6);
        fault("(!-(!-(1))))", 6);
        fault("((((((-1))))))", 6);
        fault("((((((!1))))))", 6);
        fault("!!!!!!(1)", 6);
        fault("1-(((((((2", 8);
        fault("(1+((((((2", 8);
        fault("1?!!!!!!!2", 8);
        fault("1;-------2", 8);
        fault("((((((1))))))*((((((!1))))))", 20);
        fault("((((((1+(2", 8);
        fault("-(!(-(!1)))", 6);
        fault("((((((1--2))))))", 8);
    }

    private static void intsThatWrap() {
        says("Terms 1", "Ints that wrap");
        gives("7+(9999*9999*30<0)", 8);
        gives("7+(2048*1024*1024<0)", 8);
        // 2147483647 and one more.
        gives("7+(2047*1024*1024+1023*1024+1023>0)", 8);
        gives("7+(2047*1024*1024+1023*1024+1023+1<0)", 8);
        gives("7+(2048*1024*1024-1>0)", 8);
        gives("7+(-(2048*1024*1024)<0)", 8);
        gives("4096*1024*1024+5", 5);
        gives("2048*1024*1024*2+5", 5);
    }

    private static void towardZero() {
        says("Terms 1", "/ and % toward 0, by 0 they give 0");
        gives("7/2", 3);
        gives("7%4", 3);
        gives("5+-7/2", 2);
        gives("5+7/-2", 2);
        gives("-7/-2", 3);
        gives("5+-7%4", 2);
        gives("5+7%-4", 8);
        gives("5+-7%-4", 2);
        gives("5+7/0", 5);
        gives("5+7%0", 5);
        gives("5+0/0", 5);
        gives("5+0%0", 5);
        gives("5+-7/0", 5);
        gives("5+7/(w-7)", 5);
        gives("5+7%(w-7)", 5);
        gives("5+(2048*1024*1024/-1<0)", 6);
        gives("5+2048*1024*1024%-1", 5);
        gives("2048*1024*1024/0", 0);
        gives("0/7+5", 5);
    }

    private static void oneOrZero() {
        says("Terms 1", "| & < = > ! give 1, 0;");
        gives("5+(4|8)", 6);
        gives("5+(4|0)", 6);
        gives("5+(0|8)", 6);
        gives("5+(0|0)", 5);
        gives("5+(0|-1)", 6);
        gives("5+(4&8)", 6);
        gives("5+(4&0)", 5);
        gives("5+(0&8)", 5);
        gives("5+(-1&-2)", 6);
        gives("5+(0&0)", 5);
        gives("5+(7<8)", 6);
        gives("5+(8<8)", 5);
        gives("5+(9<8)", 5);
        gives("5+(7=8)", 5);
        gives("5+(8=8)", 6);
        gives("5+(9=8)", 5);
        gives("5+(7>8)", 5);
        gives("5+(8>8)", 5);
        gives("5+(9>8)", 6);
        gives("5+(-1<0)", 6);
        gives("5+!0", 6);
        gives("5+!7", 5);
        gives("5+!-1", 5);
        gives("5+!!7", 6);
    }

    private static void allIsWorkedOut() {
        says("Terms 1", "all is worked out");
        gives("5+(1|1/0)", 6);
        gives("5+(0&1%0)", 5);
        gives("1?7;1/0", 7);
        gives("0?1/0;7", 7);
    }

    private static void theFirstLineThatCounts() {
        says("Terms 1", "The first LINE without a first E, or whose first E is not 0, counts; none: 0.");
        gives("3;4", 3);
        gives("0;4", 0);
        gives("0?3;4", 4);
        gives("0?3;0;4", 0);
        gives("1?3;4", 3);
        gives("-1?3;4", 3);
        gives("1?0;4", 0);
        gives("0?3;2?4;5", 4);
        gives("0?3;0?4;5", 5);
        gives("0?3", 0);
        gives("0?3;0?4", 0);
        gives("4096*1024*1024?3;4", 4);
        gives("2048*1024*1024?3;4", 3);
    }

    private static void theFaultsPlace() {
        says("Terms 1", "FAULT: the place (from 0) of the first byte with which no TEXT goes on");
        fault("x", 0);
        fault("xx", 0);
        fault("1x2x", 1);
        fault("p+b*w/c%h-n$", 11);
        fault("1?2;3?4?5", 7);
        fault("" + (char) 0, 0);
        fault("1" + (char) 255, 1);
        fault(many("1", 60, "+") + "x", 119);
        fault(many("1", 59, "+") + "x+1", 117);
        fault("(1" + many("", 117, ")") + "?", 3);
    }

    private static void theFaultOfWhatEndsTooEarly() {
        says("Terms 1", "the length, if it ends too early.");
        fault("", 0);
        fault("(", 1);
        fault("((((((", 6);
        fault("!", 1);
        fault("1+", 2);
        fault("(1", 2);
        fault("1?", 2);
        fault("1;", 2);
        fault("1?2;", 4);
        fault("((1)", 4);
        fault(many("1", 59, "+") + "+", 118);
        fault(many("1", 59, "+") + "+(", 119);
        fault(many("1", 60, "+") + "+", 120);
        fault(many("1", 60, ";") + ";", 120);
    }

    private static void heldWithinTwelve() {
        says("Terms 1", "(held within 0 .. 12)");
        gives("-9999", 0);
        gives("-1", 0);
        gives("0", 0);
        gives("1", 1);
        gives("11", 11);
        gives("12", 12);
        gives("13", 12);
        gives("9999*9999", 12);
        gives("2048*1024*1024", 0);
        gives("2048*1024*1024-1", 12);
        RefusedOnce x = tell(land(5, 5), 2, 0, 12);
        x.mend(0, 5, 11);
        due("without a text, 15", x.odds(1), 12);
        x.mend(0, 5, 0);
        due("without a text, less than 0", x.odds(10), 0);
    }

    private static void withoutAText() {
        says("Terms 1", "Without a text: p, and h by 3 (cut), less b by 4 (cut).");
        RefusedOnce x = tell(land(5, 5), 2, 0, 5);
        for (int hour = 0; hour <= 11; hour++) {
            x.mend(0, 5, hour);
            due("at " + hour, x.odds(1), 5 + hour / 3);
        }
        x.mend(0, 5, 0);
        for (int pride = 0; pride <= 12; pride++) {
            x.mend(0, 2, pride);
            due("by one of pride " + pride, x.odds(1), 5 - pride / 4);
            due("to one of pride " + pride, x.odds(10), Math.max(0, pride - 1));
        }
        due("a faulty text is none", law(x, "9+"), -102);
        due("by one of pride 12", x.odds(1), 2);
    }

    public static void main(String[] args) throws IOException, IllegalAccessException {
        run(LawBoundariesTest.class, args, 0);
    }
}
