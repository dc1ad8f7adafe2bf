import java.util.Random;

/** Promises 29 to 33: two who each see their end. */
public final class TwoTest {
    private static final Check check = new Check("TwoTest");

    public static void main(String[] args) {
        weights();
        paysOfSigns();
        bestForBoth();
        stands();
        gaps();
        asAllRulesDo();
        check.end();
    }

    /** Promise 29. */
    private static void weights() {
        TheyHearLate x = new TheyHearLate();
        check.due("at first 1", x.weight(0, 1, 99), 1);
        check.due("what it was", x.weight(0, 1, 0), 99);
        check.due("another one", x.weight(1, 0, 5), 1);
        int[][] refused = {{-1, 0, 1}, {3, 0, 1}, {0, -1, 1}, {0, 3, 1}, {0, 0, -1}, {0, 0, 100}, {1, 0, 100}};
        for (int[] r : refused) {
            check.due("weight refused", x.weight(r[0], r[1], r[2]), -1);
        }
        check.due("stays", x.weight(0, 1, 1), 0);
        check.due("stays", x.weight(1, 0, 1), 5);
        check.due("stays", x.weight(0, 0, 1), 1);
    }

    /** Promise 30. */
    private static void paysOfSigns() {
        TheyHearLate x = new TheyHearLate();
        check.due("i+j+a+b", Check.pays(x, "i+j+a+b"), 0);
        check.due("empties the text", x.count(5), 0);
        check.due("its sum", x.two(), 9 + 9 + 9 * 4);
        for (String sign : new String[] {"t", "y", "x", "v", "h"}) {
            check.due("pay of " + sign, Check.pays(x, "a+" + sign), -3);
            check.due("empties the text", x.count(5), 0);
        }
        check.due("ends too early", Check.pays(x, "i*"), -3);
        check.due("too many signs", Check.pays(x, "i+i+i+i+i+i+i+i+i+i+i+i+i+i+i+i+i+i+i+i+i"), -41);
        check.due("six deep", Check.pays(x, "((((((i))))))"), -6);
        check.due("stays", x.two(), 54);
        check.due("a is of a rule too", Check.rule(x, 0, "a"), 0);
        check.due("i is not of a rule", Check.rule(x, 0, "i"), -1);
        check.due("b is not of a rule", Check.rule(x, 0, "b"), -1);
        check.due("an empty one", x.pays(), 0);
        check.due("0 always", x.two(), 0);
        check.due("no rule is told by it", x.count(2), 1);
    }

    /** Promise 31. */
    private static void bestForBoth() {
        TheyHearLate x = new TheyHearLate();
        check.due("none", x.two(), 0);
        check.row("none", x, 0, 0, 0, 0, 0, 0);
        Check.pays(x, "(a=i)*9+(b=j)-(a=b)*2");
        x.weight(0, 0, 0);
        check.due("each its own", x.two(), 6 * 9 + 2 * 9 + 8 - 2 * 2);
        check.row("each its own", x, 0, 1, 2, 0, 1, 2);
        Check.pays(x, "0-a-b-9");
        check.due("below 0", x.two(), -9 * 8);
        check.row("below 0", x, 0, 0, 0, 0, 0, 0);
        Check.pays(x, "a=2-b");
        check.due("of equal ones the least row", x.two(), 8);
        check.row("of equal ones the least row", x, 0, 0, 0, 2, 2, 2);
        Check.pays(x, "999*999*999");
        for (int i = 0; i < 9; i++) {
            x.weight(i / 3, i % 3, 99);
        }
        check.due("a long sum", x.two(), 9L * 99 * 997002999);
        Check.pays(x, "-999*999*999*3");
        check.due("as ints", x.two(), 9L * 99 * (int) (-997002999L * 3));
    }

    /** Promise 32. */
    private static void stands() {
        TheyHearLate x = new TheyHearLate();
        check.due("none", x.stand(210, 12), 0);
        check.row("as before, if as good", x, 210, 12, 0);
        Check.pays(x, "a=b&i=j");
        check.due("the one takes over", x.stand(0, 12), 1);
        check.row("the one takes over", x, 12, 12, 3);
        check.due("by turns the one first", x.stand(12, 0), 1);
        check.row("by turns the one first", x, 0, 0, 3);
        Check.pays(x, "(a=2-b)*3+(b=1)");
        check.due("the one waits, the other one changes, then the one", x.stand(11, 120), 2);
        check.row("the one waits, the other one changes, then the one", x, 111, 111, 9 * 4);
        Check.pays(x, "(a=b)+(a=2-b)");
        check.due("0 and 2 are as good", x.stand(212, 0), 1);
        check.row("as before, if as good, else the least", x, 202, 0, 9);
        int[][] refused = {{-1, 0}, {3, 0}, {0, 3}, {223, 0}, {0, 223}, {30, 0}, {0, 130}, {203, 0}, {1000, 0},
                {0, -1}, {Integer.MIN_VALUE, 0}, {300, 0}};
        for (int[] r : refused) {
            check.due("stand refused", x.stand(r[0], r[1]), -1);
        }
        check.row("stays", x, 202, 0, 9);
        check.due("at the bounds", x.stand(222, 222) >= 0, true);
    }

    /** Promise 33. */
    private static void gaps() {
        TheyHearLate x = new TheyHearLate();
        check.due("none", x.gap(), 0);
        check.row("none", x, 0);
        Check.pays(x, "(a=0&b=0)+(a=1&b=1)*5");
        check.due("they stand at 0", x.gap(), 45 - 9);
        check.row("they stand at 0", x, 45);
        Check.pays(x, "(a=1&b=1)*5");
        check.due("as before, if as good, from 0, 0", x.gap(), 45);
        check.row("as before, if as good, from 0, 0", x, 45);
        Check.pays(x, "(a=j)+(b=i)");
        check.due("each wants to see the other end", x.gap(), 0);
        check.row("each wants to see the other end", x, 18);
        Check.pays(x, "0-9-a");
        check.due("below 0", x.gap(), 0);
        check.row("below 0", x, -81);
        check.due("two() stands as it was", x.two(), -81);
    }

    private static void asAllRulesDo() {
        Random random = new Random(31);
        String[] pays = {"(a=i)+(b=j)+(a=b)", "(a+b=i+j)*3-(a=b)", "(a+b-i-j)*(i-b-1)", "a*b-i*a-j*b", "(a-i)*(b-j)+(a=j)",
                "-(a+b-i*j)*(a+b-i*j)", "(a=b&i<j)|(a>b&i>j)|(i=j)", "(a>i|b<j)*7-a*2+b", "a*i-b*j+(a=b)*2", "5/(a-b)+i/(j-a)"};
        for (int round = 0; round < 120; round++) {
            TheyHearLate x = new TheyHearLate();
            String pay = pays[round % pays.length];
            check.due("pays " + pay, Check.pays(x, pay), 0);
            Oracle.Expression told = Oracle.read(pay, "ijab");
            int[][] weights = new int[3][3];
            for (int i = 0; i < 9; i++) {
                weights[i / 3][i % 3] = round < 10 ? 1 : random.nextInt(4);
                x.weight(i / 3, i % 3, weights[i / 3][i % 3]);
            }
            Match match = new Match(told, weights);
            match.best();
            check.due("two of " + pay, x.two(), match.most);
            check.row("two of " + pay, x, match.row);
            check.due("gap of " + pay, x.gap(), match.most - match.turns(new int[3], new int[3]));
            check.row("gap of " + pay, x, match.seeingBoth());
            int[] one = {random.nextInt(3), random.nextInt(3), random.nextInt(3)};
            int[] other = {random.nextInt(3), random.nextInt(3), random.nextInt(3)};
            String call = "stand(" + number(one) + ", " + number(other) + ") of " + pay;
            int got = x.stand(number(one), number(other));
            long sum = match.turns(one, other);
            check.due(call, got, match.changed);
            check.row(call, x, number(one), number(other), sum);
        }
    }

    private static int number(int[] rule) {
        return Integer.parseInt("" + rule[0] + rule[1] + rule[2]);
    }

    /** All 729 pairs of rules, one by one. */
    private static final class Match {
        final Oracle.Expression pay;
        final int[][] weights;
        long most;
        long[] row;
        int changed;

        Match(Oracle.Expression pay, int[][] weights) {
            this.pay = pay;
            this.weights = weights;
        }

        long sum(int[] one, int[] other) {
            long sum = 0;
            for (int i = 0; i < 3; i++) {
                for (int j = 0; j < 3; j++) {
                    sum += (long) weights[i][j] * pay.value(i, j, one[i], other[j]);
                }
            }
            return sum;
        }

        void best() {
            most = Long.MIN_VALUE;
            for (int n = 0; n < 729; n++) {
                int[] one = {n / 243, n / 81 % 3, n / 27 % 3};
                int[] other = {n / 9 % 3, n / 3 % 3, n % 3};
                if (sum(one, other) > most) {
                    most = sum(one, other);
                    row = new long[] {one[0], one[1], one[2], other[0], other[1], other[2]};
                }
            }
        }

        /** By turns; whose rules are given has them then. */
        long turns(int[] one, int[] other) {
            changed = 0;
            boolean again = true;
            while (again) {
                boolean first = answer(one, one, other);
                boolean second = answer(other, one, other);
                changed += (first ? 1 : 0) + (second ? 1 : 0);
                again = first || second;
            }
            return sum(one, other);
        }

        private boolean answer(int[] mine, int[] one, int[] other) {
            boolean changes = false;
            for (int seen = 0; seen < 3; seen++) {
                int before = mine[seen];
                long[] sums = new long[3];
                for (int done = 0; done < 3; done++) {
                    mine[seen] = done;
                    sums[done] = sum(one, other);
                }
                int best = before;
                for (int done = 2; done >= 0; done--) {
                    if (sums[done] > sums[best] || (sums[done] == sums[best] && sums[done] > sums[before])) {
                        best = done;
                    }
                }
                mine[seen] = best;
                changes |= best != before;
            }
            return changes;
        }

        long seeingBoth() {
            long sum = 0;
            for (int i = 0; i < 3; i++) {
                for (int j = 0; j < 3; j++) {
                    long best = Long.MIN_VALUE;
                    for (int n = 0; n < 9; n++) {
                        best = Math.max(best, (long) weights[i][j] * pay.value(i, j, n / 3, n % 3));
                    }
                    sum += best;
                }
            }
            return sum;
        }
    }
}
