/** The bounds that Promises 24 to 28 name, each at the bound and past it. */
public final class SteeringBoundsTest {
    private static final Check check = new Check("SteeringBoundsTest");
    private static final int[] FAR = {Integer.MIN_VALUE, Integer.MAX_VALUE};
    private static final World world = new World(check, World::five);

    public static void main(String[] args) {
        steerAtItsBounds();
        steerInParts();
        steerOfEqualOnesTheLeastInSize();
        steerByWindAtItsBounds();
        steerByDueAtItsBounds();
        steerOfOthers();
        blindByNothing();
        blindBelow0();
        blindOfOthers();
        pullAtItsBounds();
        pullPutToItsBounds();
        pullCutTo0();
        pullOfWhatWasBeforeTheFirst();
        pullByHalves();
        pullTurnsWithoutNoughts();
        pullCalmFromFirstToLast();
        pullOfOthers();
        edgeIsAbove100();
        edgeOfOthers();
        gentleOfEqualOnesTheLeast();
        gentleOfNone();
        gentleOfOthers();
        check.end();
    }

    private static void steers(TheyHearLate x, int late, int from, int n, int most, long cost, int first) {
        String call = "steer(" + late + ", " + from + ", " + n + ", " + most + ")";
        check.due(call, x.steer(late, from, n, most), 0);
        check.row(call, x, cost, first);
    }

    /** Promise 24: -most .. most (1 .. 4), late minutes ago (0 .. 4), from (-50 .. 50), n minutes (1 .. 6). */
    private static void steerAtItsBounds() {
        TheyHearLate x = new TheyHearLate();
        steers(x, 0, 50, 1, 1, 10 * 49, -1);
        steers(x, 0, -50, 1, 1, 10 * 49, 1);
        steers(x, 0, 50, 1, 4, 10 * 46, -4);
        steers(x, 0, -50, 1, 4, 10 * 46, 4);
        steers(x, 0, 50, 6, 4, 1000000 * (46 + 42 + 38 + 34 + 30 + 26), -4);
        steers(x, 4, -50, 6, 4, 10000000000L * (46 + 42 + 38 + 34 + 30 + 26), 4);
        steers(x, 4, 50, 6, 1, 10000000000L * (49 + 48 + 47 + 46 + 45 + 44), -1);
        steers(x, 4, 50, 1, 1, 100000 * 49, -1);
        steers(x, 0, 4, 6, 4, 0, -4);
        steers(x, 0, 5, 6, 4, 1000000, -4);
        steers(x, 0, 0, 6, 4, 0, 0);
    }

    /** Promise 24: a number of 10 to (late and n) parts. */
    private static void steerInParts() {
        TheyHearLate x = new TheyHearLate();
        long parts = 1;
        for (int sum = 1; sum <= 10; sum++) {
            parts *= 10;
            for (int late = Math.max(0, sum - 6); late <= 4 && late < sum; late++) {
                int n = sum - late;
                long cost = 0;
                for (int k = 1; k <= n; k++) {
                    cost += 20 - k;
                }
                steers(x, late, 20, n, 1, parts * cost, -1);
            }
        }
    }

    /** Promise 24: of equal ones the least in size, then below 0. */
    private static void steerOfEqualOnesTheLeastInSize() {
        TheyHearLate x = new TheyHearLate();
        x.beam(2, 5);
        steers(x, 0, 0, 1, 4, 5, 0);
        steers(x, 0, 1, 1, 4, 5, 0);
        steers(x, 0, 2, 1, 4, 5, -1);
        steers(x, 0, -1, 1, 4, 5, 1);
        steers(x, 0, -4, 1, 4, 5, 4);
        x.beam(2, 0);
        x.beam(3, 5);
        steers(x, 0, 0, 1, 4, 5, 0);
        steers(x, 0, -1, 1, 4, 5, 0);
        steers(x, 0, -2, 1, 4, 5, 1);
        steers(x, 0, 1, 1, 4, 5, -1);
        steers(x, 0, 4, 1, 4, 5, -4);
        x.beam(2, 5);
        steers(x, 0, 0, 1, 1, 10, 0);
        steers(x, 1, 0, 1, 1, 100, 0);
    }

    private static void steerByWindAtItsBounds() {
        TheyHearLate x = new TheyHearLate();
        x.beam(2, 10);
        steers(x, 0, 5, 1, 4, 0, -4);
        steers(x, 0, 6, 1, 4, 10, -4);
        steers(x, 4, 1, 1, 4, 0, 4);
        steers(x, 4, 0, 1, 4, 100000, 4);
        steers(x, 4, 9, 6, 4, 0, -4);
        steers(x, 0, 50, 6, 4, 1000000L * (45 + 40 + 35 + 30 + 25 + 20), -4);
        steers(x, 4, 50, 6, 4, 10000000000L * (41 + 36 + 31 + 26 + 21 + 16), -4);
        x.beam(2, 0);
        x.beam(3, 10);
        steers(x, 0, -5, 1, 4, 0, 4);
        steers(x, 4, -1, 1, 4, 0, -4);
        steers(x, 4, -9, 6, 4, 0, 4);
        steers(x, 0, -50, 6, 4, 1000000L * (45 + 40 + 35 + 30 + 25 + 20), 4);
        steers(x, 4, -50, 6, 4, 10000000000L * (41 + 36 + 31 + 26 + 21 + 16), 4);
        steers(x, 4, 50, 6, 1, 10000000000L * 54 * 6, -1);
        x.beam(3, 1);
        steers(x, 0, 0, 1, 4, 1, 0);
        x.beam(3, 9);
        steers(x, 0, 0, 1, 4, 1, -1);
    }

    private static void steerByDueAtItsBounds() {
        TheyHearLate x = new TheyHearLate();
        x.beam(1, 99);
        steers(x, 0, -50, 1, 1, 10 * 148, 1);
        steers(x, 0, 50, 6, 4, 1000000L * (45 + 41 + 37 + 33 + 29 + 25), 4);
        x.beam(1, -99);
        steers(x, 0, 50, 1, 1, 10 * 148, -1);
        steers(x, 4, 50, 6, 1, 10000000000L * (148 + 147 + 146 + 145 + 144 + 143), -1);
        world.leavesAllButTheRow("steer(4, 50, 6, 4)", y -> y.steer(4, 50, 6, 4));
        world.leavesAllButTheRow("blind(4, 50, 6, 4)", y -> y.blind(4, 50, 6, 4));
    }

    private static final int[][] NO_STEERING = {{-1, 0, 1, 1}, {5, 0, 1, 1}, {0, -51, 1, 1}, {0, 51, 1, 1}, {0, 0, 0, 1},
            {0, 0, -1, 1}, {0, 0, 7, 1}, {0, 0, 1, 0}, {0, 0, 1, -1}, {0, 0, 1, 5}};

    /** Promise 24: NONE: others. */
    private static void steerOfOthers() {
        for (int[] s : NO_STEERING) {
            world.refuses("steer refused", -1, x -> x.steer(s[0], s[1], s[2], s[3]));
        }
        for (int far : FAR) {
            world.refuses("late far off", -1, x -> x.steer(far, 0, 1, 1));
            world.refuses("from far off", -1, x -> x.steer(0, far, 1, 1));
            world.refuses("n far off", -1, x -> x.steer(0, 0, far, 1));
            world.refuses("most far off", -1, x -> x.steer(0, 0, 1, far));
        }
    }

    private static void isBlind(TheyHearLate x, int late, int from, int n, int most, long upper, long lower) {
        String call = "blind(" + late + ", " + from + ", " + n + ", " + most + ")";
        check.due(call, x.blind(late, from, n, most), 0);
        check.row(call, x, upper, lower);
    }

    /** Promise 25: that COST with late less that with 0, as a fraction. */
    private static void blindByNothing() {
        TheyHearLate x = new TheyHearLate();
        for (int late = 0; late <= 4; late++) {
            isBlind(x, late, 50, 6, 4, 0, 1);
            isBlind(x, late, -50, 1, 1, 0, 1);
        }
        x.beam(2, 3);
        x.beam(3, 4);
        isBlind(x, 0, 50, 6, 4, 0, 1);
        isBlind(x, 0, 3, 1, 1, 0, 1);
        x.beam(2, 5);
        x.beam(3, 5);
        isBlind(x, 1, 0, 1, 1, 0, 1);
        isBlind(x, 2, 0, 1, 1, 1, 2);
    }

    private static void blindBelow0() {
        TheyHearLate x = new TheyHearLate();
        x.beam(2, 10);
        isBlind(x, 4, 9, 1, 4, -4, 1);
        isBlind(x, 1, 50, 1, 1, -1, 1);
        isBlind(x, 4, -50, 1, 1, 4, 1);
        x.beam(2, 5);
        isBlind(x, 1, 50, 1, 1, -1, 2);
        isBlind(x, 1, -50, 1, 1, 1, 2);
    }

    /** Promise 25: NONE likewise. */
    private static void blindOfOthers() {
        for (int[] s : NO_STEERING) {
            world.refuses("blind refused", -1, x -> x.blind(s[0], s[1], s[2], s[3]));
        }
        for (int far : FAR) {
            world.refuses("late far off", -1, x -> x.blind(far, 0, 1, 1));
            world.refuses("from far off", -1, x -> x.blind(0, far, 1, 1));
            world.refuses("n far off", -1, x -> x.blind(0, 0, far, 1));
            world.refuses("most far off", -1, x -> x.blind(0, 0, 1, far));
        }
    }

    private static void pulls(int late, int k, int x, int n, int answer, long... row) {
        TheyHearLate one = new TheyHearLate();
        String call = "pull(" + late + ", " + k + ", " + x + ", " + n + ")";
        check.due(call, one.pull(late, k, x, n), answer);
        check.row(call, one, row);
    }

    /** Promise 26: x (1 .. 999), k tenths (1 .. 20), late (0 .. 20), n minutes (2 .. 199). */
    private static void pullAtItsBounds() {
        pulls(0, 1, 1, 2, 1, 1, 0, 0);
        pulls(0, 1, 999, 2, 900, 999, 0, -1);
        pulls(0, 20, 999, 2, 999, 999, 2, -1);
        pulls(20, 1, 1, 2, 1, 1, 0, 0);
        pulls(20, 20, 1, 2, 3, 1, 1, -1);
        pulls(20, 20, 999, 2, 2997, 999, 1, -1);
        pulls(0, 10, 999, 199, 0, 999, 0, 1);
        pulls(0, 20, 999, 199, 999, 999, 199, -1);
        pulls(0, 9, 999, 199, 1, 999, 0, 3);
    }

    /** Promise 26: put to -99999 .. 99999. */
    private static void pullPutToItsBounds() {
        pulls(1, 20, 999, 14, 92907, 6993, 6, -1);
        pulls(1, 20, 999, 15, 99999, 6993, 6, -1);
        pulls(1, 20, 999, 16, 99999, 16983, 7, -1);
        pulls(1, 20, 999, 17, 99999, 16983, 7, -1);
        pulls(1, 20, 999, 18, 99999, 16983, 8, -1);
        TheyHearLate x = new TheyHearLate();
        for (int late = 1; late <= 20; late++) {
            check.due("never beyond", x.pull(late, 20, 999, 199), 99999);
            check.due("never beyond", x.row(0) <= 99999, true);
        }
    }

    /** Promise 26: cut to 0: 9 tenths of 1 are none, 15 of -4 are 6. */
    private static void pullCutTo0() {
        pulls(0, 9, 1, 9, 1, 1, 0, 0);
        pulls(0, 10, 1, 9, 0, 1, 0, 0);
        pulls(0, 19, 1, 3, 0, 1, 0, 0);
        pulls(0, 15, 9, 4, 2, 9, 3, 3);
        pulls(0, 15, 3, 3, 1, 3, 1, 1);
        pulls(0, 11, 9, 2, 0, 9, 0, 1);
        pulls(0, 13, 9, 3, 2, 9, 1, 2);
    }

    /** Promise 26: before the first: x. */
    private static void pullOfWhatWasBeforeTheFirst() {
        pulls(1, 10, 10, 2, 10, 10, 1, -1);
        pulls(2, 5, 10, 4, 7, 10, 1, -1);
        pulls(20, 1, 100, 21, 110, 100, 1, -1);
        pulls(20, 1, 100, 22, 119, 100, 1, -1);
        pulls(19, 1, 100, 21, 109, 100, 1, -1);
    }

    /** Promise 26: minutes n by 2 (cut) and later, till behind the last; from the first to before these. */
    private static void pullByHalves() {
        pulls(0, 5, 100, 2, 50, 100, 0, -1);
        pulls(0, 5, 100, 3, 50, 100, 0, -1);
        pulls(0, 5, 100, 4, 25, 100, 0, -1);
        pulls(0, 5, 100, 5, 25, 100, 0, -1);
        pulls(0, 5, 100, 6, 13, 100, 0, -1);
        pulls(20, 20, 100, 2, 300, 100, 1, -1);
        pulls(20, 20, 100, 3, 500, 100, 1, -1);
        pulls(20, 20, 100, 4, 700, 100, 1, -1);
        pulls(20, 20, 100, 5, 900, 100, 1, -1);
        pulls(20, 20, 100, 6, 1100, 300, 1, -1);
    }

    /** Promise 26: how often its sign turned (from above 0 to below, or back; noughts left out). */
    private static void pullTurnsWithoutNoughts() {
        pulls(1, 10, 10, 2, 10, 10, 1, -1);
        pulls(1, 10, 10, 3, 10, 10, 1, -1);
        pulls(1, 10, 10, 4, 10, 10, 1, 4);
        pulls(1, 10, 10, 5, 10, 10, 2, -1);
        pulls(1, 10, 10, 6, 10, 10, 2, -1);
        pulls(1, 10, 10, 8, 10, 10, 3, -1);
        pulls(0, 10, 10, 9, 0, 10, 0, 1);
        pulls(2, 10, 9, 2, 9, 9, 1, -1);
    }

    /** Promise 26: the first minute from which on it is 1 in size at most (NONE). */
    private static void pullCalmFromFirstToLast() {
        pulls(0, 1, 1, 199, 1, 1, 0, 0);
        pulls(0, 1, 2, 199, 2, 2, 0, -1);
        pulls(0, 5, 2, 2, 1, 2, 0, 1);
        pulls(0, 5, 3, 2, 2, 3, 0, 2);
        pulls(0, 5, 5, 2, 3, 5, 0, -1);
        pulls(0, 5, 5, 3, 3, 5, 0, 3);
        pulls(0, 20, 1, 199, 1, 1, 199, 0);
        pulls(0, 20, 2, 199, 2, 2, 199, -1);
        pulls(1, 10, 1, 199, 1, 1, 66, 0);
        pulls(20, 10, 1, 2, 1, 1, 1, 0);
        pulls(20, 10, 1, 3, 2, 1, 1, -1);
    }

    /** Promise 26: NONE: others. */
    private static void pullOfOthers() {
        int[][] refused = {{-1, 1, 1, 2}, {21, 1, 1, 2}, {0, 0, 1, 2}, {0, -1, 1, 2}, {0, 21, 1, 2}, {0, 1, 0, 2},
                {0, 1, -1, 2}, {0, 1, 1000, 2}, {0, 1, 1, 1}, {0, 1, 1, 0}, {0, 1, 1, -1}, {0, 1, 1, 200}};
        for (int[] r : refused) {
            world.refuses("pull refused", -1, x -> x.pull(r[0], r[1], r[2], r[3]));
        }
        for (int far : FAR) {
            world.refuses("late far off", -1, x -> x.pull(far, 1, 1, 2));
            world.refuses("k far off", -1, x -> x.pull(0, far, 1, 2));
            world.refuses("x far off", -1, x -> x.pull(0, 1, far, 2));
            world.refuses("n far off", -1, x -> x.pull(0, 1, 1, far));
        }
        world.leavesAllButTheRow("pull(20, 20, 999, 199)", x -> x.pull(20, 20, 999, 199));
    }

    /** Promise 27: the least k (1 .. 20) with which it is above 100; -2: none. */
    private static void edgeIsAbove100() {
        TheyHearLate x = new TheyHearLate();
        check.due("20 tenths at once swing between 100 and -100", x.edge(0), -2);
        check.due("10 tenths of a minute ago swing between 100 and -100", x.edge(1), 11);
        for (int late = 0; late <= 20; late++) {
            int edge = x.edge(late);
            check.due("edge(" + late + ")", edge == -2 ? late == 0 : edge >= 1 && edge <= 20, true);
            if (edge > 0) {
                check.due("with it", x.pull(late, edge, 100, 199) > 100, true);
            }
            for (int k = 1; k < (edge > 0 ? edge : 21); k++) {
                check.due("with less", x.pull(late, k, 100, 199) <= 100, true);
            }
        }
        check.due("the last", x.edge(20), 1);
    }

    /** Promise 27: NONE: another late. */
    private static void edgeOfOthers() {
        for (int late : new int[] {-1, 21, Integer.MIN_VALUE, Integer.MAX_VALUE}) {
            world.refuses("edge(" + late + ")", -1, x -> x.edge(late));
        }
        world.leaves("edge(0)", x -> x.edge(0));
        world.leaves("edge(20)", x -> x.edge(20));
    }

    /** Promise 28: the soonest 1 in size at most; of equal ones the least. */
    private static void gentleOfEqualOnesTheLeast() {
        int[][] cases = {{0, 1, 1, 0}, {20, 1, 1, 0}, {0, 2, 5, 1}, {0, 3, 7, 1}, {0, 10, 9, 1}, {0, 20, 10, 1}, {0, 100, 10, 1},
                {0, 999, 10, 1}};
        for (int[] c : cases) {
            TheyHearLate x = new TheyHearLate();
            String call = "gentle(" + c[0] + ", " + c[1] + ")";
            check.due(call, x.gentle(c[0], c[1]), c[2]);
            check.row(call, x, c[3]);
        }
        world.leavesAllButTheRow("gentle(20, 1)", x -> x.gentle(20, 1));
    }

    /** Promise 28: -2: none. */
    private static void gentleOfNone() {
        TheyHearLate x = new TheyHearLate();
        for (int late = 0; late <= 20; late += 4) {
            for (int from : new int[] {1, 2, 9, 10, 11, 999}) {
                boolean any = false;
                for (int k = 1; k <= 20; k++) {
                    x.pull(late, k, from, 199);
                    any |= x.row(2) != -1;
                }
                TheyHearLate y = new TheyHearLate();
                y.two();
                int k = y.gentle(late, from);
                check.due("gentle(" + late + ", " + from + ")", k != -2, any);
                check.due("numbers of the row", y.count(4), any ? 1 : 6);
            }
            x = new TheyHearLate();
        }
        check.due("none", x.gentle(20, 9), -2);
        world.leaves("gentle(20, 9)", y -> y.gentle(20, 9));
    }

    /** Promise 28: NONE: others. */
    private static void gentleOfOthers() {
        int[][] refused = {{-1, 1}, {21, 1}, {0, 0}, {0, -1}, {0, 1000}, {21, 1000}};
        for (int[] r : refused) {
            world.refuses("gentle refused", -1, x -> x.gentle(r[0], r[1]));
        }
        for (int far : FAR) {
            world.refuses("late far off", -1, x -> x.gentle(far, 1));
            world.refuses("x far off", -1, x -> x.gentle(0, far));
        }
    }
}
