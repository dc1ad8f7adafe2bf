/** Promises 1 to 10: the yard. */
public final class YardTest {
    private static final Check check = new Check("YardTest");

    public static void main(String[] args) {
        aNewObject();
        people();
        sets();
        links();
        beams();
        sheets();
        texts();
        rulesAndTheirFaults();
        rulesInForce();
        doesNow();
        check.end();
    }

    /** Promise 1. */
    private static void aNewObject() {
        TheyHearLate x = new TheyHearLate();
        check.due("NONE", TheyHearLate.NONE, -1);
        for (int what = 0; what <= 5; what++) {
            check.due("count(" + what + ")", x.count(what), 0);
        }
        check.due("place(0)", x.place(0), 0);
        check.isThrown("place(1)", () -> x.place(1));
        check.isThrown("row(0)", () -> x.row(0));
        check.due("beam(0)", x.beam(0, 0), 0);
        check.due("beam(1)", x.beam(1, 0), 0);
        check.due("beam(2)", x.beam(2, 0), 0);
        check.due("beam(3)", x.beam(3, 0), 0);
        check.due("seed", x.seed(5), 1);
        for (int i = 0; i < 9; i++) {
            check.due("weight", x.weight(i / 3, i % 3, 1), 1);
        }
        for (int i = 0; i < 3; i++) {
            check.due("again", x.again(i), false);
        }
    }

    /** Promise 2. */
    private static void people() {
        TheyHearLate x = new TheyHearLate();
        int[][] refused = {{-1, 0, 0}, {21, 0, 0}, {0, -1, 0}, {0, 21, 0}, {0, 0, -1}, {0, 0, 10}};
        for (int[] r : refused) {
            check.due("person refused", x.person(r[0], r[1], r[2]), -1);
        }
        check.due("nobody", x.count(0), 0);
        check.due("person", x.person(20, 20, 9), 0);
        check.due("late", x.set(0, 0, 0), 20);
        check.due("sight", x.set(0, 1, 0), 20);
        check.due("thinks", x.set(0, 2, 0), 9);
        for (int i = 1; i < 6; i++) {
            check.due("person", x.person(0, 0, 0), i);
        }
        check.due("the seventh", x.person(0, 0, 0), -1);
        check.due("six", x.count(0), 6);
    }

    /** Promise 3. */
    private static void sets() {
        TheyHearLate x = new TheyHearLate();
        check.due("nobody there", x.set(0, 0, 0), -1);
        x.person(3, 4, 5);
        check.due("late", x.set(0, 0, 20), 3);
        check.due("late again", x.set(0, 0, 0), 20);
        check.due("sight", x.set(0, 1, 20), 4);
        check.due("thinks", x.set(0, 2, 9), 5);
        int[][] refused = {{0, 0, 21}, {0, 0, -1}, {0, 1, 21}, {0, 1, -1}, {0, 2, 10}, {0, 2, -1},
                {0, 3, 0}, {0, -1, 0}, {1, 0, 0}, {-1, 0, 0}};
        for (int[] r : refused) {
            check.due("set refused", x.set(r[0], r[1], r[2]), -1);
        }
        check.due("late stays", x.set(0, 0, 1), 0);
        check.due("sight stays", x.set(0, 1, 1), 20);
        check.due("thinks stays", x.set(0, 2, 1), 9);
    }

    /** Promise 4. */
    private static void links() {
        TheyHearLate x = new TheyHearLate();
        x.person(2, 0, 1);
        x.person(3, 0, 1);
        check.due("not near", x.by(0, 1, 9), -2);
        check.due("near", x.link(0, 0, 1, true), true);
        check.due("near", x.by(0, 1, 9), 6);
        check.due("near the other way", x.by(1, 0, 9), 7);
        check.due("near again", x.link(0, 1, 0, true), true);
        check.due("no longer near", x.link(0, 1, 0, false), true);
        check.due("not near", x.by(0, 1, 9), -2);
        check.due("not near", x.by(1, 0, 9), -2);
        x.link(0, 0, 1, true);
        check.due("both ways said", x.soon(0, 1), 6);
        check.due("sees", x.link(1, 0, 1, true), true);
        check.due("a nod", x.soon(0, 1), 4);
        check.due("no nod the other way", x.soon(1, 0), 6);
        check.due("sees no more", x.link(1, 0, 1, false), true);
        check.due("no nod", x.soon(0, 1), 6);
        check.due("like ones", x.link(0, 0, 0, true), false);
        check.due("like ones", x.link(1, 1, 1, true), false);
        check.due("none such", x.link(0, 0, 2, true), false);
        check.due("none such", x.link(0, -1, 0, true), false);
        check.due("none such", x.link(0, 2, 1, true), false);
        check.due("no such link", x.link(2, 0, 1, true), false);
        check.due("no such link", x.link(-1, 0, 1, true), false);
        check.due("near stays", x.by(0, 1, 9), 6);
    }

    /** Promise 5. */
    private static void beams() {
        TheyHearLate x = new TheyHearLate();
        check.due("start", x.beam(0, 999), 0);
        check.due("place", x.place(0), 999);
        check.due("start", x.beam(0, -999), 999);
        check.due("due", x.beam(1, 99), 0);
        check.due("due", x.beam(1, -99), 99);
        check.due("down", x.beam(2, 10), 0);
        check.due("up too much", x.beam(3, 1), -1);
        check.due("down", x.beam(2, 0), 10);
        check.due("up", x.beam(3, 10), 0);
        check.due("down too much", x.beam(2, 1), -1);
        check.due("up", x.beam(3, 4), 10);
        check.due("down", x.beam(2, 6), 0);
        int[][] refused = {{0, 1000}, {0, -1000}, {1, 100}, {1, -100}, {2, 7}, {2, -1}, {2, 11}, {3, 5}, {3, -1},
                {4, 0}, {-1, 0}};
        for (int[] r : refused) {
            check.due("beam refused", x.beam(r[0], r[1]), -1);
        }
        check.due("start stays", x.beam(0, 7), -999);
        check.due("due stays", x.count(3), -99);
        x.beam(2, 0);
        x.beam(3, 0);
        x.go(1);
        check.due("start behind minute 0", x.beam(0, 3), -1);
        check.due("place stays", x.place(0), 7);
        check.due("due behind minute 0", x.beam(1, 1), -99);
        check.due("down behind minute 0", x.beam(2, 1), 0);
        check.due("up behind minute 0", x.beam(3, 1), 0);
        x.begin();
        check.due("start in minute 0 again", x.beam(0, 3), 7);
        check.due("place", x.place(0), 3);
    }

    /** Promise 6. */
    private static void sheets() {
        TheyHearLate x = new TheyHearLate();
        for (int i = 0; i < 4; i++) {
            x.person(9, 0, 0);
        }
        check.due("another kind", x.sheet(-1, 0, 0, 0), -1);
        check.due("another kind, n below 0", x.sheet(4, -1, 0, 0), -1);
        check.due("n above 6", x.sheet(0, 7, 0, 0), -1);
        check.due("n above 6 and missing", x.sheet(3, 7, 0, 0), -1);
        check.due("n below 0", x.sheet(0, -1, 0, 0), -2);
        check.due("n below 0", x.sheet(1, -1, 0, 0), -2);
        check.due("n below 0", x.sheet(2, Integer.MIN_VALUE, 0, 0), -2);
        check.due("nothing changed", x.set(3, 0, 9), 9);
        check.due("bytes", x.sheet(0, 4, 254, 3), 0 + 1 + 4 + 7);
        lates(x, 0, 1, 4, 7);
        check.due("bytes below 0", x.sheet(0, 4, 127, 1), 20);
        lates(x, 20, 0, 0, 0);
        check.due("shorts", x.sheet(1, 3, 65534, 3), 0 + 1 + 4);
        lates(x, 0, 1, 4, 0);
        check.due("shorts are longer than bytes", x.sheet(1, 1, 257, 0), 20);
        check.due("bytes of a long number", x.sheet(0, 1, 257, 0), 1);
        check.due("ints", x.sheet(2, 4, 65537, -65536), 20 + 1);
        lates(x, 20, 1, 0, 0);
        check.due("shorts of a long number", x.sheet(1, 4, 65537, -65536), 4);
        check.due("ints wrap", x.sheet(2, 2, Integer.MAX_VALUE, Integer.MAX_VALUE), 20);
        lates(x, 20, 0, 0, 0);
        check.due("more entries than people", x.sheet(2, 6, 1, 1), 1 + 2 + 3 + 4);
        check.due("no entries", x.sheet(2, 0, 5, 5), 0);
        lates(x, 0, 0, 0, 0);
        x.sheet(2, 4, 3, 1);
        check.due("missing", x.sheet(3, -5, 9, 9), -3);
        lates(x, 0, 0, 0, 0);
    }

    private static void lates(TheyHearLate x, int... want) {
        for (int i = 0; i < want.length; i++) {
            int late = x.set(i, 0, 0);
            x.set(i, 0, late);
            check.due("late of " + i, late, want[i]);
        }
    }

    /** Promises 7 and 8. */
    private static void texts() {
        TheyHearLate x = new TheyHearLate();
        for (int i = 1; i <= 15; i++) {
            check.due("sign", x.sign(-1), 4 * i);
        }
        check.due("more than 60", x.sign(0), -1);
        check.due("60 signs", x.count(5), 60);
        check.due("57 signs", x.end(57), true);
        check.due("more than 60", x.sign(0), -1);
        check.due("57 signs stay", x.count(5), 57);
        check.due("56 signs", x.end(56), true);
        check.due("60 again", x.sign(0), 60);
        check.due("so many", x.end(60), true);
        check.due("not so many", x.end(61), false);
        check.due("below 0", x.end(-1), false);
        check.due("60 stay", x.count(5), 60);
        check.due("none", x.end(0), true);
        check.due("none are there", x.count(5), 0);
        check.due("one is too many", x.end(1), false);
        check.due("the highest byte first", x.sign('1' << 24 | '-' << 16 | '8' << 8 | 200), 4);
        x.end(3);
        x.person(0, 0, 0);
        check.due("1-8", x.rule(0), 0);
        check.due("1-8", x.does(0, 0), -7);
        x.sign('9' << 24 | '(' << 16);
        x.end(1);
        x.sign('-' << 24 | '5' << 16);
        check.due("a text goes on behind its end", x.end(3), true);
        x.rule(0);
        check.due("9-5", x.does(0, 0), 4);
    }

    /** Promise 9: what can't stand. */
    private static void rulesAndTheirFaults() {
        fault("", 0);
        fault("x", 0);
        fault("tyxvha", -2);
        fault("t+y-x*v/h&a", 0);
        fault("z", -1);
        fault("i", -1);
        fault("T", -1);
        fault(" x", -1);
        fault("x ", -2);
        fault("xx", -2);
        fault("xn", -2);
        fault("x!", -2);
        fault("x(", -2);
        fault("x\u00e1", -2);
        fault("\u00f8", -1);
        fault("3x", -2);
        fault("x3", -2);
        fault("(x)3", -4);
        fault("(x)(x)", -4);
        fault("123", 0);
        fault("000", 0);
        fault("1234", -4);
        fault("1+1234", -6);
        fault("+x", -1);
        fault("x+", -3);
        fault("x+*", -3);
        fault("x+!-!-", -7);
        fault("!", -2);
        fault("!-!!--x", 0);
        fault("x--1", 0);
        fault("x<-1", 0);
        fault(")", -1);
        fault("x)", -2);
        fault("()", -2);
        fault("(x", -3);
        fault("(x))", -4);
        fault("((((((x", -6);
        fault("(((((x)))))", 0);
        fault("(((((x)))))+(((((x)))))", 0);
        fault("(((((x)+(y)", -12);
        fault("x<1<2", -4);
        fault("x=1>2", -4);
        fault("x<1+2*t=3", -8);
        fault("(x<1)<2", 0);
        fault("x<(1<2)", 0);
        fault("(x<1)<2<3", -8);
        fault("x<(1)<2", -6);
        fault("x<1&x<2|x<3", 0);
        fault("x<1&x<2<3", -8);
        fault("x<1|x<2<3", -8);
        fault("(x|y<1)<(2=3)", 0);
        fault("x||y", -3);
        fault("x,y", -2);
        TheyHearLate x = new TheyHearLate();
        check.due("no such rule", Check.rule(x, 12, "x"), -100);
        check.due("asked first, and empties the text", x.count(5), 0);
        check.due("no such rule, with a fault", Check.rule(x, -1, "+"), -100);
        check.due("no such rule, empty", x.rule(12), -100);
        String forty = "x+x+x+x+x+x+x+x+x+x+x+x+x+x+x+x+x+x+x+10";
        fault(forty, 0);
        fault(forty + "1", -41);
        fault(forty + "z", -41);
        fault(forty.substring(0, 39) + "++", -41);
        fault(forty.substring(0, 38) + "(", -40);
        fault(forty.substring(0, 38) + "((", -41);
        fault(forty.substring(0, 38) + "xx", -40);
        fault(forty.substring(0, 38) + "xxxx", -40);
        fault("z" + forty + forty.substring(0, 19), -1);
    }

    private static void fault(String text, int want) {
        TheyHearLate x = new TheyHearLate();
        Check.rule(x, 4, "7");
        check.due("rule of " + text, Check.rule(x, 4, text), want);
        check.due("the text is empty behind " + text, x.count(5), 0);
        check.due("told behind " + text, x.count(2), text.isEmpty() ? 0 : 16);
        for (int i = 0; i < 3; i++) {
            x.person(0, 0, 0);
        }
        if (want < 0) {
            check.due("the rule ahead of " + text + " stays", x.does(2, 0), 7);
        }
    }

    /** Promise 9: whose rule it is, and one that is taken back. */
    private static void rulesInForce() {
        TheyHearLate x = new TheyHearLate();
        for (int i = 0; i < 12; i++) {
            check.due("rule for one who is not there", Check.rule(x, i, String.valueOf(i % 10)), 0);
        }
        check.due("all told", x.count(2), 4095);
        for (int i = 0; i < 6; i++) {
            x.person(0, 0, 0);
            check.due("does", x.does(i, 0), 2 * i % 10);
            check.due("says", x.does(i, 1), (2 * i + 1) % 10);
        }
        check.due("an empty text", x.rule(3), 0);
        check.due("rule 3 is none", x.count(2), 4095 - 8);
        check.due("says nothing", x.does(1, 1), 0);
    }

    /** Promise 10. */
    private static void doesNow() {
        TheyHearLate x = new TheyHearLate();
        check.isThrown("nobody", () -> x.does(0, 0));
        x.person(0, 0, 0);
        check.due("without a rule", x.does(0, 0), 0);
        check.due("without a rule", x.does(0, 1), 0);
        Check.rule(x, 0, "100");
        Check.rule(x, 1, "100");
        check.due("put to 9", x.does(0, 0), 9);
        check.due("put to 99", x.does(0, 1), 99);
        Check.rule(x, 0, "-10");
        Check.rule(x, 1, "-100");
        check.due("put to -9", x.does(0, 0), -9);
        check.due("put to -99", x.does(0, 1), -99);
        Check.rule(x, 0, "t");
        x.go(3);
        check.due("now", x.does(0, 0), 3);
        check.due("asking changes nothing", x.count(1), 3);
        check.isThrown("what 2", () -> x.does(0, 2));
        check.isThrown("what -1", () -> x.does(0, -1));
        check.isThrown("one 1", () -> x.does(1, 0));
        check.isThrown("one -1", () -> x.does(-1, 0));
        x.go(199);
        check.due("in the last minute", x.does(0, 0), 9);
    }
}
