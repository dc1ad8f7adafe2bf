/** The bounds that Promises 29 to 33 name, each at the bound and past it. */
public final class TwoBoundsTest {
    private static final Check check = new Check("TwoBoundsTest");
    private static final int[] FAR = {Integer.MIN_VALUE, Integer.MAX_VALUE};
    private static final World world = new World(check, World::five);

    public static void main(String[] args) {
        weightTellsWhatItWas();
        weightOfOthers();
        paysOfItsSignsAlone();
        paysOfAnEmptyText();
        paysOfFortySigns();
        paysThatCanNotStand();
        twoOfEqualOnesTheLeastRow();
        twoOfAnyRule();
        twoOfNoWeight();
        twoBelow0();
        twoBeyondInts();
        standOfRulesAsNumbers();
        standOfOthers();
        standAsBeforeIfAsGood();
        standElseTheLeast();
        standByTurns();
        gapFromRules0();
        gapIfBothSawBoth();
        check.end();
    }

    /** Promise 29: i 0 .. 2, j 0 .. 2, v (0 .. 99; at first 1): what it was. */
    private static void weightTellsWhatItWas() {
        TheyHearLate x = new TheyHearLate();
        for (int i = 0; i < 3; i++) {
            for (int j = 0; j < 3; j++) {
                check.due("at first", x.weight(i, j, 99), 1);
                check.due("the greatest", x.weight(i, j, 0), 99);
                check.due("the least", x.weight(i, j, 10 * i + j), 0);
            }
        }
        for (int i = 0; i < 3; i++) {
            for (int j = 0; j < 3; j++) {
                check.due("each its own", x.weight(i, j, 1), 10 * i + j);
            }
        }
    }

    /** Promise 29: refused: others. */
    private static void weightOfOthers() {
        int[][] refused = {{-1, 0, 1}, {3, 0, 1}, {0, -1, 1}, {0, 3, 1}, {0, 0, -1}, {0, 0, 100}, {2, 3, 1}, {3, -1, 1}, {1, -1, 1}};
        for (int[] r : refused) {
            world.refuses("weight refused", -1, x -> x.weight(r[0], r[1], r[2]));
        }
        for (int far : FAR) {
            world.refuses("i far off", -1, x -> x.weight(far, 0, 1));
            world.refuses("j far off", -1, x -> x.weight(0, far, 1));
            world.refuses("v far off", -1, x -> x.weight(0, 0, far));
        }
    }

    /** Promise 30: of SIGNS i, j (what each sees), a, b (what each does, 0 .. 2) alone. */
    private static void paysOfItsSignsAlone() {
        for (int c = 0; c < 256; c++) {
            TheyHearLate x = new TheyHearLate();
            boolean stands = c >= '0' && c <= '9' || c == 'i' || c == 'j' || c == 'a' || c == 'b';
            boolean ahead = c == '!' || c == '-' || c == '(';
            check.due("pay of sign " + c, Check.pays(x, String.valueOf((char) c)), stands ? 0 : ahead ? -2 : -1);
            check.due("signs of the text", x.count(5), 0);
        }
        String[] signs = {"i", "j", "a", "b"};
        for (int s = 0; s < 4; s++) {
            for (int v = 0; v <= 3; v++) {
                TheyHearLate x = new TheyHearLate();
                Check.pays(x, signs[s] + "=" + v);
                check.due("how often " + signs[s] + " is " + v, x.two(), v > 2 ? 0 : s < 2 ? 3 : 9);
            }
        }
    }

    /** Promise 30: an empty one: none: 0 always. */
    private static void paysOfAnEmptyText() {
        TheyHearLate x = new TheyHearLate();
        check.due("none at first", x.two(), 0);
        check.due("7", Check.pays(x, "7"), 0);
        check.due("7", x.two(), 63);
        check.due("none", x.pays(), 0);
        check.due("none", x.two(), 0);
        check.due("none", x.gap(), 0);
        check.row("none", x, 0);
        check.due("none", x.stand(212, 121), 0);
        check.row("none", x, 212, 121, 0);
    }

    private static void paysOfFortySigns() {
        String forty = "11" + Check.times("+1", 19);
        TheyHearLate x = new TheyHearLate();
        check.due("40 signs", Check.pays(x, forty), 0);
        check.due("40 signs", x.two(), 9 * 30);
        check.due("41 signs", Check.pays(x, forty + "1"), -41);
        check.due("41 signs, the last none", Check.pays(x, forty + "?"), -41);
        check.due("60 signs", Check.pays(x, forty + Check.times("+1", 10)), -41);
        check.due("40 signs stay", x.two(), 9 * 30);
        check.due("five deep", Check.pays(x, "(((((a)))))"), 0);
        check.due("six deep", Check.pays(x, "((((((a))))))"), -6);
        check.due("1000", Check.pays(x, "1000"), -4);
        check.due("five deep stays", x.two(), 18);
    }

    /** Promise 30: -1 - p as rule(); what was THE PAY stays. */
    private static void paysThatCanNotStand() {
        String[] texts = {"?", "x", "i+", "a<b<i", "(a", "a)", "t", "aa", "a+h"};
        int[] want = {-1, -1, -3, -4, -3, -2, -1, -2, -3};
        for (int i = 0; i < texts.length; i++) {
            String text = texts[i];
            World told = new World(check, () -> {
                TheyHearLate x = World.five();
                x.end(0);
                Check.tell(x, text);
                return x;
            });
            told.refusesWithTheText("pays of " + text, want[i], TheyHearLate::pays);
        }
    }

    private static TheyHearLate paying(String pay) {
        TheyHearLate x = new TheyHearLate();
        check.due("pays " + pay, Check.pays(x, pay), 0);
        return x;
    }

    /** Promise 31: of equal ones the least row. */
    private static void twoOfEqualOnesTheLeastRow() {
        TheyHearLate x = paying("7");
        check.due("all alike", x.two(), 63);
        check.row("all alike", x, 0, 0, 0, 0, 0, 0);
        x = paying("a>0");
        check.due("1 as good as 2", x.two(), 9);
        check.row("1 as good as 2", x, 1, 1, 1, 0, 0, 0);
        x = paying("b>0");
        check.due("1 as good as 2", x.two(), 9);
        check.row("1 as good as 2", x, 0, 0, 0, 1, 1, 1);
        x = paying("a+b=2");
        check.due("0 and 2 ahead of 1 and 1", x.two(), 9);
        check.row("0 and 2 ahead of 1 and 1", x, 0, 0, 0, 2, 2, 2);
        x = paying("(a=b)&(a>0)");
        check.due("1 and 1 ahead of 2 and 2", x.two(), 9);
        check.row("1 and 1 ahead of 2 and 2", x, 1, 1, 1, 1, 1, 1);
        x = paying("a*b*(i=2&j=2)");
        check.due("all but 2 left at 0", x.two(), 4);
        check.row("all but 2 left at 0", x, 0, 0, 2, 0, 0, 2);
        world.leavesAllButTheRow("two()", TheyHearLate::two);
    }

    /** Promise 31: what each does by what it sees: each of all 27 rules can be the best, of the one and of the other. */
    private static void twoOfAnyRule() {
        for (int rule = 0; rule < 27; rule++) {
            int[] r = {rule / 9, rule / 3 % 3, rule % 3};
            TheyHearLate x = paying("(i=0&a=" + r[0] + ")|(i=1&a=" + r[1] + ")|(i=2&a=" + r[2] + ")");
            check.due("best of the one", x.two(), 9);
            check.row("best of the one", x, r[0], r[1], r[2], 0, 0, 0);
            x = paying("(j=0&b=" + r[0] + ")|(j=1&b=" + r[1] + ")|(j=2&b=" + r[2] + ")");
            check.due("best of the other one", x.two(), 9);
            check.row("best of the other one", x, 0, 0, 0, r[0], r[1], r[2]);
        }
    }

    private static void twoOfNoWeight() {
        TheyHearLate x = paying("a+b");
        for (int i = 0; i < 9; i++) {
            x.weight(i / 3, i % 3, 0);
        }
        check.due("no weight", x.two(), 0);
        check.row("no weight", x, 0, 0, 0, 0, 0, 0);
        x.weight(1, 2, 99);
        check.due("one weight", x.two(), 4 * 99);
        check.row("one weight", x, 0, 2, 0, 0, 0, 2);
    }

    private static void twoBelow0() {
        TheyHearLate x = paying("-1-a-b");
        check.due("all below 0", x.two(), -9);
        check.row("all below 0", x, 0, 0, 0, 0, 0, 0);
        x = paying("a+b-9");
        check.due("all below 0", x.two(), -45);
        check.row("all below 0", x, 2, 2, 2, 2, 2, 2);
    }

    /** Promise 31: the sum of WEIGHT times THE PAY, beyond ints. */
    private static void twoBeyondInts() {
        String[] pays = {"512*512*512*16-1", "512*512*512*16"};
        long[] each = {Integer.MAX_VALUE, Integer.MIN_VALUE};
        for (int k = 0; k < 2; k++) {
            TheyHearLate x = paying(pays[k]);
            for (int i = 0; i < 9; i++) {
                x.weight(i / 3, i % 3, 99);
            }
            check.due("as far as can be", x.two(), 9 * 99 * each[k]);
            check.due("as far as can be", x.stand(0, 0), 0);
            check.row("as far as can be", x, 0, 0, 9 * 99 * each[k]);
            check.due("as far as can be", x.gap(), 0);
            check.row("as far as can be", x, 9 * 99 * each[k]);
        }
        TheyHearLate x = paying("512*512*512*16-(a=1&b=1)");
        for (int i = 0; i < 9; i++) {
            x.weight(i / 3, i % 3, 99);
        }
        check.due("from the least to the greatest", x.gap(), 9 * 99 * ((1L << 32) - 1));
        check.row("from the least to the greatest", x, 9 * 99 * (long) Integer.MAX_VALUE);
    }

    /** Promise 32: rules told as one number each (digits for 0, 1, 2: 100, 10, 1 times what is done). */
    private static void standOfRulesAsNumbers() {
        TheyHearLate x = new TheyHearLate();
        int told = 0;
        for (int one = -5; one <= 300; one++) {
            if (one % 100 == 0) {
                x = new TheyHearLate();
            }
            boolean is = one >= 0 && one / 100 <= 2 && one / 10 % 10 <= 2 && one % 10 <= 2;
            told += is ? 1 : 0;
            check.due("stand(" + one + ", 0)", x.stand(one, 0), is ? 0 : -1);
            check.due("stand(0, " + one + ")", x.stand(0, one), is ? 0 : -1);
            if (is) {
                check.due("told again", x.row(1), one);
            }
        }
        check.due("rules", told, 27);
        TheyHearLate y = paying("100*(i=0&a=1)+10*(i=1&a=2)+(i=2&a=1)");
        check.due("all there", y.stand(121, 0), 0);
        check.row("all there", y, 121, 0, 333);
        check.due("the greatest", y.stand(222, 222), 1);
        check.row("the greatest", y, 121, 222, 333);
    }

    /** Promise 32: NONE: others. */
    private static void standOfOthers() {
        int[] others = {-1, 3, 9, 13, 23, 30, 103, 130, 203, 223, 230, 300, 1000, 1111, -100, -222,
                Integer.MIN_VALUE, Integer.MAX_VALUE};
        for (int other : others) {
            world.refuses("stand(" + other + ", 0)", -1, x -> x.stand(other, 0));
            world.refuses("stand(222, " + other + ")", -1, x -> x.stand(222, other));
        }
        check.due("222 and 222", world.make().stand(222, 222) >= 0, true);
        check.due("0 and 0", world.make().stand(0, 0) >= 0, true);
        world.leavesAllButTheRow("stand(222, 222)", x -> x.stand(222, 222));
    }

    private static void stands(String pay, int one, int other, int changed, long... row) {
        TheyHearLate x = paying(pay);
        check.due("stand(" + one + ", " + other + ") of " + pay, x.stand(one, other), changed);
        check.row("stand(" + one + ", " + other + ") of " + pay, x, row);
    }

    /** Promise 32: as before, if that is as good. */
    private static void standAsBeforeIfAsGood() {
        stands("7", 201, 102, 0, 201, 102, 63);
        stands("a>0", 221, 222, 0, 221, 222, 9);
        stands("b>0", 2, 212, 0, 2, 212, 9);
        stands("!(a=1)", 202, 0, 0, 202, 0, 9);
        stands("!(a=1)", 212, 0, 1, 202, 0, 9);
        stands("(i=0)*(a=2)", 12, 0, 1, 212, 0, 3);
    }

    /** Promise 32: else the least. */
    private static void standElseTheLeast() {
        stands("a>0", 0, 0, 1, 111, 0, 9);
        stands("b>0", 0, 0, 1, 0, 111, 9);
        stands("!(a=2)", 222, 0, 1, 0, 0, 9);
        stands("!(b=2)", 0, 222, 1, 0, 0, 9);
        stands("a=2", 101, 0, 1, 222, 0, 9);
    }

    /** Promise 32: by turns the one, then the other, till neither changes: how many changed at all. */
    private static void standByTurns() {
        stands("a=b", 0, 111, 1, 111, 111, 9);
        stands("a=b", 111, 0, 1, 0, 0, 9);
        stands("a=b", 222, 222, 0, 222, 222, 9);
        stands("(a=1)+(b=2)", 0, 0, 2, 111, 222, 18);
        stands("a*b", 0, 0, 0, 0, 0, 0);
        stands("a*b", 1, 0, 2, 222, 222, 36);
        stands("a*b", 0, 1, 2, 222, 222, 36);
        stands("(a=2-b)*3+(b=1)", 11, 120, 2, 111, 111, 36);
    }

    /** Promise 33: by how much two() is more than the sum of a stand from rules 0, 0. */
    private static void gapFromRules0() {
        String[] pays = {"7", "a*b", "a+b", "(a=0&b=0)+(a=1&b=1)*5", "-7", "a*b-9", "(a=0&b=2)*9", "(a=2&b=0)*9"};
        long[] gaps = {0, 36, 0, 36, 0, 36, 0, 0};
        long[] both = {63, 36, 36, 45, -63, -45, 81, 81};
        for (int i = 0; i < pays.length; i++) {
            TheyHearLate x = paying(pays[i]);
            check.due("gap of " + pays[i], x.gap(), gaps[i]);
            check.row("gap of " + pays[i], x, both[i]);
            long two = x.two();
            x.stand(0, 0);
            check.due("as both tell", two - x.row(2), gaps[i]);
        }
        world.leavesAllButTheRow("gap()", TheyHearLate::gap);
    }

    /** Promise 33: the most, if both saw both. */
    private static void gapIfBothSawBoth() {
        TheyHearLate x = paying("a=(i=j)");
        check.due("two", x.two(), 6);
        check.due("gap", x.gap(), 0);
        check.row("all of 9", x, 9);
        x.weight(0, 0, 0);
        x.weight(1, 2, 99);
        check.due("gap", x.gap() >= 0, true);
        check.row("all of 8 and 98 more", x, 9 - 1 + 98);
        for (int done = 0; done < 9; done++) {
            x = paying("(a=" + done / 3 + "&b=" + done % 3 + ")*5");
            x.gap();
            check.row("one thing for both alone", x, 45);
        }
        x = paying("-i");
        check.due("gap", x.gap(), 0);
        check.row("what both saw, not what others did", x, -9);
        x = paying("-j");
        check.due("gap", x.gap(), 0);
        check.row("what both saw, not what others did", x, -9);
        x = paying("-(a=0)-(b=0)-(i=j)");
        check.due("gap", x.gap(), 0);
        check.row("below 0", x, -3);
    }
}
