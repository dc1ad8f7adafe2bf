/** The bounds that Terms 1 names of EXPRESSIONS and of what their SIGNS stand for, and Promise 9 of faults. */
public final class ExpressionBoundsTest {
    private static final Check check = new Check("ExpressionBoundsTest");

    public static void main(String[] args) {
        numbersHave1To3Digits();
        bracketsAreFiveDeepAtMost();
        comparedTwoAreNotBehindOneAnother();
        manyMayStandAheadOfAThing();
        bindsInItsOrder();
        countsFromTheLeft();
        dividesBy0();
        cutsTo0();
        wrapsAroundAsInts();
        tellsOneOrZero();
        textsOfFortySigns();
        textsOfMoreThanFortySigns();
        textsThatEndTooEarly();
        signsThatCanNotStand();
        nothingIsLeftOfAFault();
        noSuchRuleIsAskedFirst();
        rulesAre0To11();
        emptyTextIsNoRule();
        minuteFromFirstToLast();
        placeSeenFromStartOn();
        wayFromStartOn();
        heardFromMinute0On();
        late0IsHeardAs1();
        doneInTheMinuteAhead();
        check.end();
    }

    /** A NUMBER of 1 to 3 digits. */
    private static void numbersHave1To3Digits() {
        check.value("0", 0);
        check.value("9", 9);
        check.value("10", 10);
        check.value("99", 99);
        check.value("100", 100);
        check.value("999", 999);
        check.value("000", 0);
        check.value("007", 7);
        check.fault("1000", -4);
        check.fault("0000", -4);
        check.fault("2+0007", -6);
        check.fault("(9999)", -5);
        check.fault("()", -2);
        check.fault("12 3", -3);
        check.fault("(7)3", -4);
        check.fault("(12)3", -5);
        check.fault("(1+2)3", -6);
    }

    /** An EXPRESSION in ( ) (at most 5 in one another). */
    private static void bracketsAreFiveDeepAtMost() {
        check.value("((((7))))", 7);
        check.value("(((((7)))))", 7);
        check.fault("((((((7))))))", -6);
        check.value("(((((7)))))-(((((2)))))", 5);
        check.value("((((7)-(2))-((1))-(((1)))))", 3);
        check.fault("((((7)))-((((((2))))))", -14);
        check.fault("-!-(((((!(7))))))", -10);
    }

    /** < > = (two; 1 or 0; not one behind the other). */
    private static void comparedTwoAreNotBehindOneAnother() {
        for (String one : new String[] {"<", ">", "="}) {
            for (String other : new String[] {"<", ">", "="}) {
                check.fault("1" + one + "2" + other + "3", -4);
                check.fault("1" + one + "2+4*3" + other + "3", -8);
                check.fault("0|1" + one + "(2)" + other + "3", -8);
                check.fault("(1" + one + "2" + other + "3)", -5);
                check.fault("(1" + one + "2)" + other + "3" + one + "4", -8);
            }
        }
        check.value("(1<2)<2", 1);
        check.value("1<(2<3)", 0);
        check.value("1<2&2<3", 1);
        check.value("1<2|2>3", 1);
        check.value("(3>2)=(2<3)", 1);
        check.value("1<2&(2<3)=1", 1);
    }

    /** ! and - ahead of a thing (any many). */
    private static void manyMayStandAheadOfAThing() {
        check.value("!7", 0);
        check.value("!!7", 1);
        check.value("-7", -7);
        check.value("--7", 7);
        check.value("!-!-0", 0);
        check.value(Check.times("-", 39) + "7", -7);
        check.value(Check.times("!", 39) + "7", 0);
        check.value(Check.times("-!", 19) + "-7", 0);
        check.value("8" + Check.times("-", 38) + "7", 15);
        check.fault(Check.times("-", 40), -41);
        check.fault(Check.times("!", 40) + "7", -41);
        check.fault("7-", -3);
        check.fault("7!", -2);
        check.fault("7-!", -4);
    }

    /** | binds least, then &, then < > =, then + -, then * /, then ! and -. */
    private static void bindsInItsOrder() {
        check.value("1|1&0", 1);
        check.value("0&1|1", 1);
        check.value("(1|1)&0", 0);
        check.value("(0|7)+2", 3);
        check.value("2-(0|7)", 1);
        check.value("(0&7|1)+2", 3);
        check.value("((7|0)&(0|7))*2", 2);
        check.value("2&2=2", 1);
        check.value("2=2&2", 1);
        check.value("2=(2&2)", 0);
        check.value("3<1+1", 0);
        check.value("1+3<2", 0);
        check.value("5>3-4", 1);
        check.value("3-2>2", 0);
        check.value("3-(2>2)", 3);
        check.value("1=2|3", 1);
        check.value("2+3*4", 14);
        check.value("2*3+4", 10);
        check.value("9-6/3", 7);
        check.value("9/3-2", 1);
        check.value("!2*0", 0);
        check.value("!(2*0)", 1);
        check.value("!0+1", 2);
        check.value("!2=3", 0);
        check.value("-3+5", 2);
        check.value("2*-3", -6);
        check.value("2*!0", 2);
        check.value("-!0", -1);
        check.value("!-1", 0);
    }

    /** + - (from the left), * / (from the left). */
    private static void countsFromTheLeft() {
        check.value("5-3-1", 1);
        check.value("5-3+1", 3);
        check.value("5-(3+1)", 1);
        check.value("80/4/2", 10);
        check.value("7/2*2", 6);
        check.value("2*7/4", 3);
        check.value("80/(4/2)", 40);
    }

    /** By 0: 0. */
    private static void dividesBy0() {
        check.value("7/0", 0);
        check.value("-7/0", 0);
        check.value("0/0", 0);
        check.value("7/0+3", 3);
        check.value("7/(2-2)*5", 0);
        check.value("0/7", 0);
        check.value("7/1", 7);
        check.value("7/-1", -7);
        TheyHearLate x = new TheyHearLate();
        x.person(0, 0, 0);
        Check.rule(x, 1, "90/t");
        x.go(3);
        check.due("by minute 0", x.was(0, 0, 1), 0);
        check.due("by minute 1", x.was(0, 1, 1), 90);
        check.due("by minute 2", x.was(0, 2, 1), 45);
    }

    /** Cut to 0. */
    private static void cutsTo0() {
        check.value("7/2", 3);
        check.value("-7/2", -3);
        check.value("7/-2", -3);
        check.value("-7/-2", 3);
        check.value("1/2", 0);
        check.value("-1/2", 0);
        check.value("9/10", 0);
        check.value("10/10", 1);
        check.value("-10/10", -1);
    }

    /** As ints: 512 times 512 times 512 times 16 is one more than the greatest. */
    private static void wrapsAroundAsInts() {
        check.value("512*512*512*16-1", Integer.MAX_VALUE);
        check.value("512*512*512*16", Integer.MIN_VALUE);
        check.value("512*512*512*8+512*512*512*8", Integer.MIN_VALUE);
        check.value("-512*512*512*16", Integer.MIN_VALUE);
        check.value("-(512*512*512*16)", Integer.MIN_VALUE);
        check.value("-512*512*512*16-1", Integer.MAX_VALUE);
        check.value("512*512*512*16/-1", Integer.MIN_VALUE);
        check.value("512*512*512*16/-2", 1 << 30);
        check.value("512*512*512*32", 0);
        check.value("999*999*999*999", -426416671);
        check.value("512*512*512*16<0", 1);
        check.value("512*512*512*16-1>0", 1);
        TheyHearLate x = new TheyHearLate();
        x.person(0, 0, 0);
        Check.rule(x, 0, "512*512*512*16");
        check.due("put to its bound behind it all", x.does(0, 0), -9);
        Check.rule(x, 0, "512*512*512*16-1");
        check.due("put to its bound behind it all", x.does(0, 0), 9);
    }

    /** | & ! give 1 or 0; < > = 1 or 0. */
    private static void tellsOneOrZero() {
        check.value("5|0", 1);
        check.value("0|-5", 1);
        check.value("0|0", 0);
        check.value("5&7", 1);
        check.value("-5&7", 1);
        check.value("5&0", 0);
        check.value("0&5", 0);
        check.value("!5", 0);
        check.value("!-5", 0);
        check.value("!0", 1);
        check.value("2<3", 1);
        check.value("3<3", 0);
        check.value("4<3", 0);
        check.value("2>3", 0);
        check.value("3>3", 0);
        check.value("4>3", 1);
        check.value("2=3", 0);
        check.value("3=3", 1);
        check.value("4=3", 0);
    }

    /** Texts of at most 40 signs. */
    private static void textsOfFortySigns() {
        check.value("1" + Check.times("+1", 19), 20);
        check.value("11" + Check.times("+1", 19), 30);
        check.fault("1" + Check.times("+1", 20), -41);
        TheyHearLate x = new TheyHearLate();
        x.person(0, 0, 0);
        check.due("39 signs", Check.rule(x, 1, "1" + Check.times("+1", 19)), 0);
        check.due("39 signs", x.does(0, 1), 20);
        check.due("40 signs", Check.rule(x, 1, "11" + Check.times("+1", 19)), 0);
        check.due("40 signs", x.does(0, 1), 30);
        check.due("41 signs", Check.rule(x, 1, "111" + Check.times("+1", 19)), -41);
        check.due("40 signs stay", x.does(0, 1), 30);
        check.due("40 brackets, signs and numbers", Check.rule(x, 1, Check.times("(7)-", 9) + "-(7)"), 0);
        check.due("7 - 7 .. - - 7", x.does(0, 1), 7 - 8 * 7 + 7);
    }

    /** 40, if it has more and the first 40 could go on or end. */
    private static void textsOfMoreThanFortySigns() {
        String whole = "11" + Check.times("+1", 19);
        check.fault(whole + "+", -41);
        check.fault(whole + "x", -41);
        check.fault(whole + ")", -41);
        check.fault(whole + " ", -41);
        check.fault(whole + Check.times("?", 20), -41);
        check.fault(Check.times("1+", 20) + "1", -41);
        check.fault(Check.times("1+", 19) + "((1))", -41);
        check.fault(Check.times("1+", 19) + "(1))", -41);
        check.fault(Check.times("1+", 18) + "(((((1)))))", -41);
        check.fault(Check.times("1+", 19) + "11111", -41);
        check.fault(Check.times("1+", 19) + "1x+", -40);
        check.fault(Check.times("1+", 19) + "+1+", -39);
        check.fault(Check.times("1+", 19) + "1)+", -40);
        check.fault(Check.times("1+", 18) + "1111+", -40);
        check.fault("?" + whole, -1);
        check.fault(whole.substring(0, 39) + "?1", -40);
    }

    /** Its end, if it ends too early. */
    private static void textsThatEndTooEarly() {
        check.fault("(", -2);
        check.fault("-", -2);
        check.fault("!", -2);
        check.fault("(x", -3);
        check.fault("(x)+", -5);
        check.fault("((x)", -5);
        check.fault("x<", -3);
        check.fault("x&", -3);
        check.fault("x|", -3);
        check.fault(Check.times("1+", 19) + "(", -40);
        check.fault(Check.times("1+", 19) + "((", -41);
        check.fault(Check.times("1+", 19) + "(1", -41);
        check.fault(Check.times("1+", 20), -41);
    }

    /** The sign at p can't stand there: the first of all, the last of all, and those next to the known ones. */
    private static void signsThatCanNotStand() {
        String signs = "tyxvha";
        for (int c = 0; c < 256; c++) {
            char sign = (char) c;
            boolean digit = c >= '0' && c <= '9';
            boolean thing = digit || signs.indexOf(sign) >= 0;
            boolean ahead = sign == '!' || sign == '-' || sign == '(';
            boolean between = "|&<>=+-*/".indexOf(sign) >= 0;
            TheyHearLate x = new TheyHearLate();
            check.due("first sign " + c, Check.rule(x, 0, String.valueOf(sign)), thing ? 0 : ahead ? -2 : -1);
            check.due("sign " + c + " behind x", Check.rule(x, 0, "x" + sign), between ? -3 : -2);
            check.due("sign " + c + " behind 1", Check.rule(x, 0, "1" + sign), digit ? 0 : between ? -3 : -2);
            check.due("sign " + c + " behind (x)", Check.rule(x, 0, "(x)" + sign), between ? -5 : -4);
            check.due("sign " + c + " behind x+", Check.rule(x, 0, "x+" + sign), thing ? 0 : ahead ? -4 : -3);
        }
    }

    /** A text that can't stand leaves nothing to the next one. */
    private static void nothingIsLeftOfAFault() {
        String[] faults = {"1234", "99?", "((((((", "(((((x", "1<2<3", "(1<2<3", "!-!-?", "7*8*9+", "1|2&3=4+5*6/", "(7)3", "9"};
        for (String fault : faults) {
            TheyHearLate x = new TheyHearLate();
            x.person(0, 0, 0);
            String[] texts = {"t+5", "(((((t+6)))))", "-t-7", "1<2", "8"};
            int[] says = {5, 6, -7, 1, 8};
            for (int i = 0; i < texts.length; i++) {
                Check.rule(x, 1, fault);
                check.due("rule of " + texts[i] + " behind " + fault, Check.rule(x, 1, texts[i]), 0);
                check.due("says by " + texts[i] + " behind " + fault, x.does(0, 1), says[i]);
            }
            check.due("t)", Check.rule(x, 1, "t)"), -2);
        }
    }

    /** -100: no such RULE (asked first). */
    private static void noSuchRuleIsAskedFirst() {
        String[] texts = {"", "x", "?", "x+", Check.times("x+", 30)};
        for (String text : texts) {
            for (int i : new int[] {-1, 12, Integer.MIN_VALUE, Integer.MAX_VALUE}) {
                TheyHearLate x = new TheyHearLate();
                check.due("rule " + i + " of " + text, Check.rule(x, i, text), -100);
                check.due("signs of THE TEXT", x.count(5), 0);
                check.due("rules told", x.count(2), 0);
            }
        }
    }

    /** RULES 0 .. 11: 2 i: what PEOPLE i DO, 2 i + 1: what they SAY; for one who need not be there. */
    private static void rulesAre0To11() {
        TheyHearLate x = new TheyHearLate();
        check.due("at first none", x.count(2), 0);
        check.due("the first", Check.rule(x, 0, "1"), 0);
        check.due("the first", x.count(2), 1);
        check.due("the last", Check.rule(x, 11, "2"), 0);
        check.due("the last", x.count(2), 2049);
        check.due("behind the last", Check.rule(x, 12, "3"), -100);
        check.due("ahead of the first", Check.rule(x, -1, "4"), -100);
        check.due("none more", x.count(2), 2049);
        for (int i = 0; i < 6; i++) {
            x.person(0, 0, 0);
            check.due("does", x.does(i, 0), i == 0 ? 1 : 0);
            check.due("says", x.does(i, 1), i == 5 ? 2 : 0);
        }
    }

    /** At first none; an empty text: none. */
    private static void emptyTextIsNoRule() {
        TheyHearLate x = new TheyHearLate();
        x.person(0, 0, 0);
        check.due("none of none", x.rule(0), 0);
        check.due("none told", x.count(2), 0);
        Check.rule(x, 0, "0");
        check.due("a rule of 0 is told", x.count(2), 1);
        check.due("told for rules()", x.rules(0, 0, 0, 1), 0);
        x.sign('x' << 24);
        x.end(0);
        check.due("a text of no signs", x.rule(0), 0);
        check.due("none told", x.count(2), 0);
        check.due("none for rules()", x.rules(0, 0, 0, 1), -2);
        check.due("does 0 without it", x.does(0, 0), 0);
    }

    /** t the MINUTE. */
    private static void minuteFromFirstToLast() {
        TheyHearLate x = new TheyHearLate();
        x.person(0, 0, 0);
        Check.rule(x, 1, "t/2");
        check.due("minute 0", x.does(0, 1), 0);
        x.go(199);
        check.due("minute 0", x.was(0, 0, 1), 0);
        check.due("minute 1", x.was(0, 1, 1), 0);
        check.due("minute 2", x.was(0, 2, 1), 1);
        check.due("minute 198", x.was(0, 198, 1), 99);
        check.due("minute 199", x.does(0, 1), 99);
    }

    private static TheyHearLate seeing(int sight, String says) {
        TheyHearLate x = new TheyHearLate();
        x.beam(0, 50);
        x.person(0, sight, 0);
        Check.rule(x, 0, "2");
        Check.rule(x, 1, says);
        return x;
    }

    /** x PLACE as that MINUTE began that is SIGHT minutes ago (before MINUTE 0: START). */
    private static void placeSeenFromStartOn() {
        for (int sight : new int[] {0, 1, 2, 19, 20}) {
            TheyHearLate x = seeing(sight, "x");
            x.go(24);
            for (int m = 0; m < 24; m++) {
                int want = m <= sight ? 50 : 50 + 2 * (m - sight);
                check.due("sight " + sight + " in minute " + m, x.was(0, m, 3), want);
                check.due("sight " + sight + " in minute " + m, x.was(0, m, 1), Math.min(99, want));
            }
            x.begin();
            x.beam(0, -7);
            check.due("another start", x.does(0, 1), -7);
        }
    }

    /** v x less PLACE a MINUTE before that (before MINUTE 0: START). */
    private static void wayFromStartOn() {
        for (int sight : new int[] {0, 1, 2, 19, 20}) {
            TheyHearLate x = seeing(sight, "v");
            x.go(24);
            for (int m = 0; m < 24; m++) {
                check.due("sight " + sight + " in minute " + m, x.was(0, m, 1), m <= sight ? 0 : 2);
            }
        }
    }

    private static TheyHearLate hearing(int late) {
        TheyHearLate x = new TheyHearLate();
        x.person(late, 0, 0);
        x.person(9, 0, 0);
        x.link(0, 0, 1, true);
        Check.rule(x, 1, "h");
        Check.rule(x, 3, "t+5");
        return x;
    }

    /** What all others said LATE minutes ago (0 before MINUTE 0). */
    private static void heardFromMinute0On() {
        for (int late : new int[] {1, 2, 19, 20}) {
            TheyHearLate x = hearing(late);
            x.go(24);
            for (int m = 0; m < 24; m++) {
                check.due("late " + late + " in minute " + m, x.was(0, m, 2), m < late ? 0 : m - late + 5);
                check.due("late " + late + " in minute " + m, x.was(0, m, 1), m < late ? 0 : m - late + 5);
            }
        }
        TheyHearLate x = hearing(20);
        x.go(19);
        check.due("in minute 19", x.does(0, 1), 0);
        x.go(1);
        check.due("in minute 20", x.does(0, 1), 5);
        x.go(179);
        check.due("in minute 199", x.does(0, 1), 99);
        check.due("in minute 198", x.was(0, 198, 2), 99);
    }

    /** LATE 0: in the MINUTE ahead, as if it was 1. */
    private static void late0IsHeardAs1() {
        TheyHearLate x = hearing(0);
        check.due("minute 0", x.does(0, 1), 0);
        x.go(3);
        check.due("minute 0", x.was(0, 0, 2), 0);
        check.due("minute 1", x.was(0, 1, 2), 5);
        check.due("minute 2", x.was(0, 2, 2), 6);
        check.due("minute 3", x.does(0, 1), 7);
    }

    /** a what one did in the MINUTE ahead (0 in the first). */
    private static void doneInTheMinuteAhead() {
        TheyHearLate x = new TheyHearLate();
        x.person(0, 0, 0);
        x.person(0, 0, 0);
        Check.rule(x, 0, "a+4");
        Check.rule(x, 1, "a");
        Check.rule(x, 3, "a");
        check.due("in the first", x.does(0, 1), 0);
        x.go(4);
        int[] want = {0, 4, 8, 9};
        for (int m = 0; m < 4; m++) {
            check.due("in minute " + m, x.was(0, m, 1), want[m]);
            check.due("of another one", x.was(1, m, 1), 0);
        }
        check.due("as put to its bounds", x.does(0, 1), 9);
        x.begin();
        check.due("in the first again", x.does(0, 1), 0);
        check.due("in the first again", x.does(0, 0), 4);
        x.go(199);
        check.due("in the last", x.does(0, 1), 9);
    }
}
