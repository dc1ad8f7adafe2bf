import java.util.ArrayList;
import java.util.List;
import java.util.Random;
import java.util.TreeMap;

/** Promises 24 to 28: steering by late sight, and pulls of a part. */
public final class SteeringTest {
    private static final Check check = new Check("SteeringTest");

    public static void main(String[] args) {
        steersByHand();
        steersAsAllPlansDo();
        refusesToSteer();
        costsToSeeLate();
        pulls();
        pullsAsByHand();
        edges();
        gentlest();
        check.end();
    }

    /** Promise 24. */
    private static void steersByHand() {
        TheyHearLate x = new TheyHearLate();
        check.due("still", x.steer(4, 0, 6, 4), 0);
        check.row("still", x, 0, 0);
        check.due("all in one", x.steer(0, -3, 6, 4), 0);
        check.row("all in one", x, 0, 3);
        x.beam(1, 2);
        check.due("to due", x.steer(0, 0, 1, 4), 0);
        check.row("to due", x, 0, 2);
        check.due("farther than can be done", x.steer(0, 50, 6, 4), 0);
        check.row("farther than can be done", x, 1000000L * (44 + 40 + 36 + 32 + 28 + 24), -4);
        x.beam(1, 0);
        x.beam(2, 3);
        check.due("down 3", x.steer(0, 0, 1, 4), 0);
        check.row("down 3", x, 3, 0);
        x.beam(2, 5);
        check.due("0 or 1 above, the least in size", x.steer(0, 0, 1, 4), 0);
        check.row("0 or 1 above, the least in size", x, 5, 0);
        check.due("2 above", x.steer(0, 2, 1, 4), 0);
        check.row("-1 or -2, the least in size", x, 5, -1);
        x.beam(2, 6);
        check.due("down 6", x.steer(0, 0, 1, 1), 0);
        check.row("down 6", x, 4, 1);
        x.beam(2, 10);
        check.due("unseen for 4 and 1", x.steer(4, 0, 1, 4), 0);
        check.row("unseen for 4 and 1", x, 100000, 4);
        check.due("unseen for 4 and 1", x.steer(4, 5, 1, 4), 0);
        check.row("unseen for 4 and 1", x, 0, 0);
        x.beam(1, -99);
        check.due("place without bounds, far off", x.steer(4, 50, 6, 1), 0);
        check.row("place without bounds", x, 10000000000L * (143 + 141 + 139 + 137 + 135 + 133), -1);
        x.beam(2, 0);
        x.beam(3, 5);
        x.beam(2, 5);
        x.beam(1, 0);
        check.due("either way does: 0 of -1, 1, 0", x.steer(1, 0, 1, 4), 0);
        check.row("0", x, 100, 0);
    }

    private static void steersAsAllPlansDo() {
        Random random = new Random(24);
        for (int i = 0; i < 150; i++) {
            TheyHearLate x = new TheyHearLate();
            int due = random.nextInt(7) - 3;
            int down = random.nextInt(11);
            int up = random.nextInt(11 - down);
            x.beam(1, due);
            x.beam(2, down);
            x.beam(3, up);
            int late = random.nextInt(3);
            int n = 1 + random.nextInt(late == 2 ? 2 : 3);
            int most = 1 + random.nextInt(n == 3 ? 1 : 3);
            int from = random.nextInt(9) - 4;
            Plans plans = new Plans(due, down, up, late, n, most);
            long want = plans.least(from);
            String call = "steer(" + late + ", " + from + ", " + n + ", " + most + ") of due " + due + ", " + down + ", " + up;
            check.due(call, x.steer(late, from, n, most), 0);
            check.row(call, x, want, plans.first);
            long atOnce = new Plans(due, down, up, 0, n, most).least(from);
            blindAs(x, late, from, n, most, want - atOnce * (long) Math.pow(10, late), (long) Math.pow(10, late + n));
        }
    }

    private static void blindAs(TheyHearLate x, int late, int from, int n, int most, long upper, long lower) {
        long common = java.math.BigInteger.valueOf(upper).gcd(java.math.BigInteger.valueOf(lower)).longValue();
        check.due("blind", x.blind(late, from, n, most), 0);
        check.row("blind", x, upper / common, lower / common);
    }

    /** All that may have been, each as the places so far with its cases; what is seen tells some of them from others. */
    private static final class Plans {
        final int due;
        final int[] cases;
        final int late;
        final int n;
        final int most;
        int first;

        Plans(int due, int down, int up, int late, int n, int most) {
            this.due = due;
            this.cases = new int[] {down, 10 - down - up, up};
            this.late = late;
            this.n = n;
            this.most = most;
        }

        long least(int from) {
            List<int[]> places = new ArrayList<>();
            List<Long> weights = new ArrayList<>();
            places.add(new int[] {from});
            weights.add(1L);
            for (int minute = 0; minute < late; minute++) {
                List<int[]> longer = new ArrayList<>();
                List<Long> heavier = new ArrayList<>();
                move(places, weights, 0, longer, heavier);
                places = longer;
                weights = heavier;
            }
            return best(0, places, weights);
        }

        private void move(List<int[]> places, List<Long> weights, int push, List<int[]> to, List<Long> by) {
            for (int i = 0; i < places.size(); i++) {
                int[] was = places.get(i);
                for (int wind = -1; wind <= 1; wind++) {
                    if (cases[wind + 1] > 0) {
                        int[] is = java.util.Arrays.copyOf(was, was.length + 1);
                        is[was.length] = was[was.length - 1] + push + wind;
                        to.add(is);
                        by.add(weights.get(i) * cases[wind + 1]);
                    }
                }
            }
        }

        private long best(int k, List<int[]> places, List<Long> weights) {
            if (k == n) {
                return 0;
            }
            long least = Long.MAX_VALUE;
            int best = 0;
            int[] pushes = {0, -1, 1, -2, 2, -3, 3, -4, 4};
            for (int i = 0; i <= 2 * most; i++) {
                List<int[]> to = new ArrayList<>();
                List<Long> by = new ArrayList<>();
                move(places, weights, pushes[i], to, by);
                long cost = 0;
                TreeMap<Integer, List<Integer>> seen = new TreeMap<>();
                for (int j = 0; j < to.size(); j++) {
                    int[] p = to.get(j);
                    cost += by.get(j) * Math.abs(p[p.length - 1] - due) * (long) Math.pow(10, n - 1 - k);
                    seen.computeIfAbsent(p[p.length - 1 - late], s -> new ArrayList<>()).add(j);
                }
                for (List<Integer> same : seen.values()) {
                    List<int[]> ps = new ArrayList<>();
                    List<Long> ws = new ArrayList<>();
                    for (int j : same) {
                        ps.add(to.get(j));
                        ws.add(by.get(j));
                    }
                    cost += best(k + 1, ps, ws);
                }
                if (cost < least) {
                    least = cost;
                    best = pushes[i];
                }
            }
            if (k == 0) {
                first = best;
            }
            return least;
        }
    }

    private static void refusesToSteer() {
        TheyHearLate x = new TheyHearLate();
        x.steer(0, 3, 1, 1);
        int[][] refused = {{-1, 0, 1, 1}, {5, 0, 1, 1}, {0, -51, 1, 1}, {0, 51, 1, 1}, {0, 0, 0, 1}, {0, 0, 7, 1},
                {0, 0, 1, 0}, {0, 0, 1, 5}};
        for (int[] r : refused) {
            check.due("steer refused", x.steer(r[0], r[1], r[2], r[3]), -1);
            check.due("blind refused", x.blind(r[0], r[1], r[2], r[3]), -1);
        }
        check.row("stays", x, 20, -1);
        check.due("at the bounds", x.steer(4, -50, 6, 4), 0);
        check.due("at the bounds", x.steer(4, 50, 6, 4), 0);
    }

    /** Promise 25. */
    private static void costsToSeeLate() {
        TheyHearLate x = new TheyHearLate();
        check.due("nothing", x.blind(4, 50, 6, 4), 0);
        check.row("nothing", x, 0, 1);
        x.beam(2, 10);
        check.due("wind brings it there", x.blind(4, 9, 1, 4), 0);
        check.row("5 - 0 less 5 - 1", x, -4, 1);
        x.beam(2, 5);
        x.beam(3, 5);
        check.due("two minutes", x.blind(1, 0, 2, 1), 0);
        x.steer(1, 0, 2, 1);
        long lately = x.row(0);
        x.steer(0, 0, 2, 1);
        blindAs(x, 1, 0, 2, 1, lately - 10 * x.row(0), 1000);
    }

    /** Promise 26. */
    private static void pulls() {
        TheyHearLate x = new TheyHearLate();
        check.due("100 50 25 13 7 4 2 1 1", x.pull(0, 5, 100, 8), 7);
        check.row("100 50 25 13 7 4 2 1 1", x, 100, 0, 7);
        check.due("100 50 25 13 7 4 2 1", x.pull(0, 5, 100, 7), 13);
        check.row("100 50 25 13 7 4 2 1", x, 100, 0, 7);
        check.due("100 50 25 13", x.pull(0, 5, 100, 3), 50);
        check.row("100 50 25 13", x, 100, 0, -1);
        check.due("1 1 1", x.pull(0, 5, 1, 2), 1);
        check.row("1 1 1", x, 1, 0, 0);
        check.due("10 0 -10 -10 0 10 10", x.pull(1, 10, 10, 6), 10);
        check.row("10 0 -10 -10 0 10 10", x, 10, 2, -1);
        check.due("1 -1 1", x.pull(0, 20, 1, 2), 1);
        check.row("1 -1 1", x, 1, 2, 0);
        check.due("cut to 0: 9 -4 2 -1 0", x.pull(0, 15, 9, 4), 2);
        check.row("cut to 0: 9 -4 2 -1 0", x, 9, 3, 3);
        x.pull(20, 20, 999, 199);
        check.due("put to its bounds", x.pull(20, 20, 999, 199), 99999);
        int[][] refused = {{-1, 1, 1, 2}, {21, 1, 1, 2}, {0, 0, 1, 2}, {0, 21, 1, 2}, {0, 1, 0, 2}, {0, 1, 1000, 2},
                {0, 1, 1, 1}, {0, 1, 1, 200}};
        x.pull(0, 20, 1, 2);
        for (int[] r : refused) {
            check.due("pull refused", x.pull(r[0], r[1], r[2], r[3]), -1);
        }
        check.row("stays", x, 1, 2, 0);
    }

    private static int[] numbers(int late, int k, int x, int n) {
        List<Integer> numbers = new ArrayList<>();
        for (int i = 0; i <= late; i++) {
            numbers.add(x);
        }
        for (int i = 0; i < n; i++) {
            int taken = (int) Math.abs((long) numbers.get(i) * k) / 10 * (numbers.get(i) < 0 ? -1 : 1);
            int next = numbers.get(numbers.size() - 1) - taken;
            numbers.add(Math.max(-99999, Math.min(99999, next)));
        }
        int[] all = new int[n + 1];
        for (int i = 0; i <= n; i++) {
            all[i] = numbers.get(late + i);
        }
        return all;
    }

    private static int greatest(int[] numbers, int from, int behind) {
        int most = 0;
        for (int i = from; i < behind; i++) {
            most = Math.max(most, Math.abs(numbers[i]));
        }
        return most;
    }

    private static int calmFrom(int[] numbers) {
        for (int m = 0; m < numbers.length; m++) {
            if (greatest(numbers, m, numbers.length) <= 1) {
                return m;
            }
        }
        return -1;
    }

    private static void pullsAsByHand() {
        Random random = new Random(26);
        for (int i = 0; i < 200; i++) {
            TheyHearLate x = new TheyHearLate();
            int late = random.nextInt(i % 2 == 0 ? 21 : 4);
            int k = 1 + random.nextInt(i % 3 == 0 ? 20 : 5);
            int from = 1 + random.nextInt(999);
            int n = 2 + random.nextInt(198);
            int[] numbers = numbers(late, k, from, n);
            int turns = 0;
            int side = 1;
            for (int number : numbers) {
                if (number * (long) side < 0) {
                    turns++;
                    side = -side;
                }
            }
            String call = "pull(" + late + ", " + k + ", " + from + ", " + n + ")";
            check.due(call, x.pull(late, k, from, n), greatest(numbers, n / 2, n + 1));
            check.row(call, x, greatest(numbers, 0, n / 2), turns, calmFrom(numbers));
        }
    }

    /** Promise 27. */
    private static void edges() {
        TheyHearLate x = new TheyHearLate();
        x.pull(0, 20, 1, 2);
        for (int late = 0; late <= 20; late++) {
            int want = -2;
            for (int k = 20; k >= 1; k--) {
                want = greatest(numbers(late, k, 100, 199), 99, 200) > 100 ? k : want;
            }
            check.due("edge(" + late + ")", x.edge(late), want);
        }
        check.due("edge(2)", x.edge(2), 7);
        check.due("edge(-1)", x.edge(-1), -1);
        check.due("edge(21)", x.edge(21), -1);
        check.row("tells no row", x, 1, 2, 0);
    }

    /** Promise 28. */
    private static void gentlest() {
        TheyHearLate x = new TheyHearLate();
        for (int late = 0; late <= 20; late++) {
            x = new TheyHearLate();
            for (int from = 1; from <= 999; from += 166) {
                int want = -2;
                int soonest = 200;
                for (int k = 1; k <= 20; k++) {
                    int calm = calmFrom(numbers(late, k, from, 199));
                    if (calm >= 0 && calm < soonest) {
                        want = k;
                        soonest = calm;
                    }
                }
                String call = "gentle(" + late + ", " + from + ")";
                x.pull(0, 20, 1, 2);
                check.due(call, x.gentle(late, from), want);
                if (want > 0) {
                    check.row(call, x, soonest);
                } else {
                    check.row(call, x, 1, 2, 0);
                }
            }
        }
        check.due("of equal ones the least", x.gentle(0, 1), 1);
        check.row("at once", x, 0);
        check.due("late -1", x.gentle(-1, 1), -1);
        check.due("late 21", x.gentle(21, 1), -1);
        check.due("from 0", x.gentle(0, 0), -1);
        check.due("from 1000", x.gentle(0, 1000), -1);
        check.row("stays", x, 0);
    }
}
