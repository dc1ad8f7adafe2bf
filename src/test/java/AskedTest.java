import java.util.ArrayList;
import java.util.List;
import java.util.Random;

/** Promises 34 to 38: who has asked and been answered by when. */
public final class AskedTest {
    private static final Check check = new Check("AskedTest");

    public static void main(String[] args) {
        saysByOthers();
        soonAnswered();
        knowThatBothKnow();
        criers();
        deafOnes();
        asAllWaysDo();
        check.end();
    }

    private static TheyHearLate people(int... lateAndThinks) {
        TheyHearLate x = new TheyHearLate();
        for (int i = 0; i < lateAndThinks.length; i += 2) {
            x.person(lateAndThinks[i], 0, lateAndThinks[i + 1]);
        }
        return x;
    }

    private static void near(TheyHearLate x, int... pairs) {
        for (int i = 0; i < pairs.length; i += 2) {
            x.link(0, pairs[i], pairs[i + 1], true);
        }
    }

    /** Promise 34. */
    private static void saysByOthers() {
        TheyHearLate x = people(1, 9, 10, 9, 2, 1, 1, 2, 3, 0, 0, 3);
        check.due("never", x.says(0, 1), -2);
        x.two();
        check.due("never", x.says(0, 1), -2);
        check.row("stays", x, 0, 0, 0, 0, 0, 0);
        near(x, 0, 1);
        check.due("itself", x.says(0, 1), 10);
        check.row("itself", x);
        check.due("the other way", x.says(1, 0), 1);
        near(x, 0, 2, 2, 1);
        check.due("itself is soonest", x.says(0, 1), 10);
        x.set(1, 0, 5);
        x.link(0, 0, 1, false);
        check.due("by 2", x.says(0, 1), 2 + 1 + 5);
        check.row("by 2", x, 2);
        near(x, 0, 5, 5, 1);
        check.due("by 2 or 5", x.says(0, 1), 8);
        check.row("of equal ones the least", x, 2);
        x.set(2, 2, 2);
        check.due("by 5", x.says(0, 1), 8);
        check.row("by 5", x, 5);
        x.set(5, 2, 9);
        check.due("by 2", x.says(0, 1), 9);
        near(x, 0, 3, 3, 4, 4, 1);
        x.set(4, 0, 0);
        x.set(3, 2, 0);
        check.due("by 3 and 4", x.says(0, 1), 1 + 0 + 0 + 0 + 5);
        check.row("by 3 and 4", x, 3, 4);
        check.due("back by 4 and 3", x.says(1, 0), 0 + 0 + 1 + 0 + 1);
        check.row("back by 4 and 3", x, 4, 3);
        x.set(3, 2, 3);
        check.due("by 2, or 3 and 4", x.says(0, 1), 9);
        check.row("of equal ones the fewest", x, 2);
        check.due("none such", x.says(0, 6), -1);
        check.due("none such", x.says(-1, 0), -1);
        check.due("like ones", x.says(3, 3), -1);
        check.row("stays", x, 2);
        TheyHearLate chain = people(1, 1, 2, 1, 3, 1, 4, 1, 5, 1, 6, 1);
        near(chain, 5, 1, 1, 3, 3, 0, 0, 4, 4, 2);
        check.due("by four", chain.says(5, 2), 2 + 4 + 1 + 5 + 3 + 4);
        check.row("by four", chain, 1, 3, 0, 4);
        TheyHearLate quick = people(0, 0, 0, 0, 0, 0);
        near(quick, 0, 1, 1, 2);
        check.due("late 0", quick.says(0, 1), 0);
        check.due("late 0", quick.says(0, 2), 0);
        check.row("late 0", quick, 1);
    }

    /** Promise 35. */
    private static void soonAnswered() {
        TheyHearLate x = people(3, 1, 5, 2, 2, 4);
        check.due("never", x.soon(0, 1), -2);
        x.link(1, 0, 1, true);
        check.due("a nod alone is none", x.soon(0, 1), -2);
        near(x, 0, 2, 2, 1);
        check.due("asked by 2, a nod", x.soon(0, 1), 2 + 4 + 5 + 2);
        check.row("a nod", x, 1);
        check.due("the other way", x.soon(1, 0), 2 + 4 + 3 + 1 + 2 + 4 + 5);
        check.row("no nod", x, 0);
        x.set(0, 0, 0);
        near(x, 0, 1);
        check.due("a nod as soon as said", x.soon(0, 1), 5 + 2);
        check.row("a nod", x, 1);
        x.link(1, 0, 1, false);
        check.due("said as soon", x.soon(0, 1), 5 + 2);
        check.row("no nod", x, 0);
        check.due("like ones", x.soon(1, 1), -1);
        check.due("none such", x.soon(0, 3), -1);
        check.due("none such", x.soon(-1, 0), -1);
        TheyHearLate y = people(0, 0, 0, 0);
        y.two();
        check.due("never", y.soon(0, 1), -2);
        check.row("stays", y, 0, 0, 0, 0, 0, 0);
    }

    /** Promise 36. */
    private static void knowThatBothKnow() {
        TheyHearLate x = people(3, 1, 5, 2);
        check.due("none can come", x.know(0, 1, 199), 0);
        x.link(1, 0, 1, true);
        check.due("one sees", x.know(0, 1, 199), 0);
        x.link(1, 1, 0, true);
        check.due("each sees", x.know(0, 1, 0), 99);
        check.due("each sees", x.know(1, 0, 199), 99);
        x.link(1, 0, 1, false);
        near(x, 0, 1);
        int[] times = {5, 10, 16, 21, 27, 32};
        for (int i = 0; i < times.length; i++) {
            check.due("just ahead", x.know(0, 1, times[i] - 1), i);
            check.due("just then", x.know(0, 1, times[i]), i + 1);
        }
        check.due("from the other one", x.know(1, 0, 3), 1);
        check.due("from the other one", x.know(1, 0, 8), 1);
        check.due("from the other one", x.know(1, 0, 9), 2);
        check.due("minute -1", x.know(0, 1, -1), -1);
        check.due("minute 200", x.know(0, 1, 200), -1);
        check.due("like ones", x.know(0, 0, 9), -1);
        check.due("none such", x.know(0, 2, 9), -1);
        TheyHearLate quick = people(1, 0, 1, 0);
        near(quick, 0, 1);
        check.due("98", quick.know(0, 1, 98), 98);
        check.due("99 at most", quick.know(0, 1, 100), 99);
        quick.set(0, 0, 0);
        quick.set(1, 0, 0);
        check.due("in no time", quick.know(0, 1, 0), 99);
    }

    /** Promise 37. */
    private static void criers() {
        TheyHearLate x = new TheyHearLate();
        check.due("nobody", x.crier(), -1);
        x.person(3, 0, 1);
        check.due("one", x.crier(), -1);
        x.person(4, 0, 2);
        x.two();
        check.due("two far", x.crier(), -2);
        check.row("stays", x, 0, 0, 0, 0, 0, 0);
        near(x, 0, 1);
        check.due("the second", x.crier(), 1);
        check.row("the second", x, 3);
        x.person(3, 0, 0);
        check.due("one far", x.crier(), -2);
        near(x, 1, 2);
        check.due("the middle one", x.crier(), 1);
        check.row("the middle one", x, 3);
        x.set(2, 0, 5);
        check.due("0: 4 + 2 + 5, 1: 5, 2: 4 + 2 + 3", x.crier(), 1);
        check.row("the last of them", x, 5);
        near(x, 0, 2);
        x.set(1, 0, 3);
        check.due("0: 5, 1: 5, 2: 3", x.crier(), 2);
        x.set(2, 0, 3);
        check.due("of equal ones the first", x.crier(), 0);
        check.row("of equal ones the first", x, 3);
    }

    /** Promise 38. */
    private static void deafOnes() {
        TheyHearLate x = people(1, 1, 1, 1, 1, 1, 1, 1);
        check.due("to all", x.deaf(0), 14);
        check.due("to all", x.deaf(3), 7);
        near(x, 0, 1, 1, 2);
        check.due("to 3", x.deaf(0), 8);
        check.due("to 3", x.deaf(1), 8);
        check.due("to all", x.deaf(3), 7);
        near(x, 2, 3);
        check.due("to none", x.deaf(0), 0);
        check.due("none such", x.deaf(4), -1);
        check.due("none such", x.deaf(-1), -1);
    }

    private static void asAllWaysDo() {
        Random random = new Random(34);
        for (int round = 0; round < 150; round++) {
            int size = 2 + random.nextInt(5);
            int wide = 1 + random.nextInt(4);
            int[] late = new int[size];
            int[] thinks = new int[size];
            boolean[][] near = new boolean[size][size];
            TheyHearLate x = new TheyHearLate();
            for (int i = 0; i < size; i++) {
                late[i] = random.nextInt(wide);
                thinks[i] = random.nextInt(wide);
                x.person(late[i], 0, thinks[i]);
            }
            for (int i = 0; i < size; i++) {
                for (int j = 0; j < i; j++) {
                    near[i][j] = random.nextInt(5) < 2;
                    near[j][i] = near[i][j];
                    x.link(0, i, j, near[i][j]);
                }
            }
            askAll(x, new Ways(late, thinks, near));
        }
    }

    private static void askAll(TheyHearLate x, Ways ways) {
        int size = ways.late.length;
        int crier = -2;
        int soonest = 10000;
        for (int one = 0; one < size; one++) {
            int last = 0;
            int deaf = 0;
            for (int other = 0; other < size; other++) {
                if (other != one) {
                    x.weight(0, 0, 1);
                    x.stand(0, 0);
                    int want = ways.best(one, other);
                    String call = "says(" + one + ", " + other + ")";
                    check.due(call, x.says(one, other), want);
                    if (want != -2) {
                        check.row(call, x, ways.row());
                    } else {
                        check.row(call, x, 0, 0, 0);
                    }
                    last = want == -2 ? 10000 : Math.max(last, want);
                    deaf |= ways.best(other, one) == -2 ? 1 << other : 0;
                    int back = ways.best(other, one);
                    check.due("soon", x.soon(one, other), want == -2 ? -2 : want + ways.thinks[other] + back);
                }
            }
            if (last < soonest) {
                soonest = last;
                crier = one;
            }
            check.due("deaf", x.deaf(one), deaf);
        }
        check.due("crier", x.crier(), crier);
        if (crier >= 0) {
            check.row("crier", x, soonest);
        }
    }

    /** All ways without a turn back, one by one. */
    private static final class Ways {
        final int[] late;
        final int[] thinks;
        final boolean[][] near;
        private int least;
        private List<Integer> way;

        Ways(int[] late, int[] thinks, boolean[][] near) {
            this.late = late;
            this.thinks = thinks;
            this.near = near;
        }

        int best(int one, int other) {
            least = -2;
            way = null;
            goOn(one, other, 1 << one, 0, new ArrayList<>());
            return least;
        }

        long[] row() {
            long[] row = new long[way.size()];
            for (int i = 0; i < row.length; i++) {
                row[i] = way.get(i);
            }
            return row;
        }

        private void goOn(int at, int other, int been, int minutes, List<Integer> by) {
            if (near[at][other] && isBetter(minutes + late[other], by)) {
                least = minutes + late[other];
                way = new ArrayList<>(by);
            }
            for (int next = 0; next < late.length; next++) {
                if (next != other && near[at][next] && (been >> next & 1) == 0) {
                    by.add(next);
                    goOn(next, other, been | 1 << next, minutes + late[next] + thinks[next], by);
                    by.remove(by.size() - 1);
                }
            }
        }

        private boolean isBetter(int minutes, List<Integer> by) {
            if (way == null || minutes != least) {
                return way == null || minutes < least;
            }
            if (by.size() != way.size()) {
                return by.size() < way.size();
            }
            for (int i = 0; i < by.size(); i++) {
                if (!by.get(i).equals(way.get(i))) {
                    return by.get(i) < way.get(i);
                }
            }
            return false;
        }
    }
}
