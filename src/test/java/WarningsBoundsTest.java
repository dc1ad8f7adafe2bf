/** The bounds that Promises 39 to 42 name, each at the bound and past it. */
public final class WarningsBoundsTest {
    private static final Check check = new Check("WarningsBoundsTest");
    private static final int[] NOBODY = {-1, 5, 6, Integer.MIN_VALUE, Integer.MAX_VALUE};
    private static final int[] FAR = {Integer.MIN_VALUE, Integer.MAX_VALUE};
    private static final World world = new World(check, World::five);

    public static void main(String[] args) {
        warnStandsAt0OrBelow();
        warnWithLessThanWayGone();
        warnTooLateInMinute0();
        warnAtItsBounds();
        warnNeverHeard();
        warnOfOthers();
        fogOfTenCases();
        fogOfOthers();
        chanceIsFromNoneToAll();
        chanceOfMinutes0To199();
        chanceWithLate0();
        chanceNotNear();
        chanceOfOthers();
        sureJustEnough();
        sureNotNear();
        sureOfOthers();
        check.end();
    }

    private static TheyHearLate two(int late, int thinks, int otherLate, int otherThinks) {
        TheyHearLate x = new TheyHearLate();
        x.person(late, 0, thinks);
        x.person(otherLate, 0, otherThinks);
        x.link(0, 0, 1, true);
        return x;
    }

    private static void warns(TheyHearLate x, int way, int speed, int brake, int want) {
        check.due("warn(0, 1, " + way + ", " + speed + ", " + brake + ")", x.warn(0, 1, way, speed, brake), want);
    }

    /** Promise 39: speed is less by brake each minute, ahead of going; at 0 or below it stands. */
    private static void warnStandsAt0OrBelow() {
        TheyHearLate x = two(0, 0, 0, 0);
        warns(x, 1, 10, 10, 0);
        warns(x, 1, 10, 11, 0);
        warns(x, 1, 10, 99, 0);
        warns(x, 1, 10, 9, -2);
        warns(x, 2, 10, 9, 0);
        warns(x, 5, 10, 5, -2);
        warns(x, 6, 10, 5, 0);
        warns(x, 8, 10, 4, -2);
        warns(x, 9, 10, 4, 0);
        warns(x, 45, 10, 1, -2);
        warns(x, 46, 10, 1, 0);
        warns(x, 1, 1, 1, 0);
    }

    /** Promise 39: so that the cart stands with less than way gone. */
    private static void warnWithLessThanWayGone() {
        TheyHearLate x = two(0, 0, 0, 0);
        warns(x, 10, 10, 10, 0);
        warns(x, 11, 10, 10, 1);
        warns(x, 20, 10, 10, 1);
        warns(x, 21, 10, 10, 2);
        warns(x, 15, 10, 5, 0);
        warns(x, 16, 10, 5, 1);
        warns(x, 25, 10, 5, 1);
        warns(x, 26, 10, 5, 2);
    }

    /** Promise 39: from the minute on in which that one has heard and THOUGHT; -2: it is too late in minute 0. */
    private static void warnTooLateInMinute0() {
        int[][] slow = {{1, 0, 1}, {0, 1, 1}, {3, 2, 5}, {20, 9, 29}};
        for (int[] s : slow) {
            TheyHearLate x = two(s[0], s[1], 17, 9);
            warns(x, 10 * s[2], 10, 10, -2);
            warns(x, 10 * s[2] + 1, 10, 10, 0);
            warns(x, 10 * s[2] + 10, 10, 10, 0);
            warns(x, 10 * s[2] + 11, 10, 10, 1);
            warns(x, 10 * s[2] + 5, 10, 5, -2);
            warns(x, 10 * s[2] + 6, 10, 5, 0);
        }
    }

    /** Promise 39: way (1 .. 9999), speed (at first 1 .. 99), brake (1 .. 99). */
    private static void warnAtItsBounds() {
        TheyHearLate x = two(0, 0, 0, 0);
        warns(x, 1, 1, 1, 0);
        warns(x, 1, 99, 99, 0);
        warns(x, 1, 99, 98, -2);
        warns(x, 9999, 1, 1, 9998);
        warns(x, 9999, 1, 99, 9998);
        warns(x, 9999, 99, 99, 9998 / 99);
        warns(x, 9999, 99, 1, (9998 - 98 * 99 / 2) / 99);
        warns(x, 98 * 99 / 2, 99, 1, -2);
        warns(x, 98 * 99 / 2 + 1, 99, 1, 0);
        TheyHearLate far = two(20, 9, 0, 0);
        warns(far, 9999, 1, 1, 9998 - 29);
        warns(far, 9999, 99, 1, (9998 - 98 * 99 / 2) / 99 - 29);
    }

    /** Promise 39: or it can never hear. */
    private static void warnNeverHeard() {
        TheyHearLate x = two(0, 0, 0, 0);
        x.person(0, 0, 0);
        check.due("never", x.warn(2, 0, 9999, 1, 99), -2);
        check.due("never", x.warn(0, 2, 9999, 1, 99), -2);
        x.link(1, 0, 2, true);
        check.due("seeing is not hearing", x.warn(0, 2, 9999, 1, 99), -2);
        x.link(0, 1, 2, true);
        check.due("by another one", x.warn(0, 2, 9999, 1, 99), 9998);
        x.set(1, 2, 8);
        check.due("by another one who thinks", x.warn(0, 2, 9999, 1, 99), 9990);
    }

    /** Promise 39: NONE: others, like ones. */
    private static void warnOfOthers() {
        for (int nobody : NOBODY) {
            world.refuses("nobody " + nobody, -1, x -> x.warn(nobody, 0, 99, 9, 9));
            world.refuses("nobody " + nobody, -1, x -> x.warn(0, nobody, 99, 9, 9));
        }
        for (int i = 0; i < 5; i++) {
            int one = i;
            world.refuses("like ones", -1, x -> x.warn(one, one, 99, 9, 9));
        }
        int[][] refused = {{0, 9, 9}, {-1, 9, 9}, {10000, 9, 9}, {99, 0, 9}, {99, -1, 9}, {99, 100, 9}, {99, 9, 0}, {99, 9, -1},
                {99, 9, 100}};
        for (int[] r : refused) {
            world.refuses("warn refused", -1, x -> x.warn(0, 1, r[0], r[1], r[2]));
            world.refuses("warn refused, never heard", -1, x -> x.warn(0, 4, r[0], r[1], r[2]));
        }
        for (int far : FAR) {
            world.refuses("way far off", -1, x -> x.warn(0, 1, far, 9, 9));
            world.refuses("speed far off", -1, x -> x.warn(0, 1, 99, far, 9));
            world.refuses("brake far off", -1, x -> x.warn(0, 1, 99, 9, far));
        }
        world.leaves("warn(0, 1, 9999, 99, 1)", x -> x.warn(0, 1, 9999, 99, 1));
        world.leaves("warn(0, 4, 9999, 99, 1)", x -> x.warn(0, 4, 9999, 99, 1));
    }

    private static void chance(TheyHearLate x, int m, int upper, int lower) {
        check.due("chance in " + m, x.chance(0, 1, m), 0);
        check.row("chance in " + m, x, upper, lower);
    }

    /** Promise 40: 0 .. 3 minutes more with chances (of ten) of a, b, c and the rest. */
    private static void fogOfTenCases() {
        int[][] fogs = {{10, 0, 0}, {0, 10, 0}, {0, 0, 10}, {0, 0, 0}, {9, 1, 0}, {0, 0, 1}, {3, 3, 4}, {3, 3, 3}, {1, 2, 3}};
        for (int[] f : fogs) {
            TheyHearLate x = two(2, 0, 3, 0);
            check.due("fog", x.fog(1, f[0], f[1], f[2]), true);
            int sum = 0;
            for (int more = 0; more < 4; more++) {
                sum = more < 3 ? sum + f[more] : 10;
                int common = sum == 0 || sum == 10 ? 10 : sum == 5 ? 5 : sum % 2 == 0 ? 2 : 1;
                chance(x, 5 + more, sum / common, 10 / common);
            }
        }
        TheyHearLate x = two(2, 0, 3, 0);
        check.due("at first clear", x.sure(0, 1, 100), 5);
        x.fog(0, 0, 0, 0);
        x.fog(1, 0, 0, 0);
        check.due("each three more", x.sure(0, 1, 1), 11);
        x.fog(1, 10, 0, 0);
        check.due("clear again for one", x.sure(0, 1, 1), 8);
        check.due("says in fog as ever", x.says(0, 1), 3);
        check.due("by in fog as ever", x.by(0, 1, 9), 6);
    }

    /** Promise 40: 0 .. 10 each, together 10 at most; refused: others. */
    private static void fogOfOthers() {
        for (int nobody : NOBODY) {
            world.refusesTruth("nobody " + nobody, x -> x.fog(nobody, 1, 1, 1));
        }
        int[][] refused = {{-1, 0, 0}, {0, -1, 0}, {0, 0, -1}, {11, 0, 0}, {0, 11, 0}, {0, 0, 11}, {10, 1, 0}, {0, 10, 1},
                {1, 0, 10}, {4, 4, 3}, {10, 10, 10}, {11, -1, 0}, {-1, 11, 0}, {0, -1, 11}, {5, 6, -1}};
        for (int[] r : refused) {
            world.refusesTruth("fog refused", x -> x.fog(0, r[0], r[1], r[2]));
            world.refusesTruth("fog refused", x -> x.fog(4, r[0], r[1], r[2]));
        }
        for (int far : FAR) {
            world.refusesTruth("a far off", x -> x.fog(0, far, 0, 0));
            world.refusesTruth("b far off", x -> x.fog(0, 0, far, 0));
            world.refusesTruth("c far off", x -> x.fog(0, 0, 0, far));
            world.refusesTruth("all far off", x -> x.fog(0, far, far, far));
        }
        check.due("4, 4, 2", world.make().fog(0, 4, 4, 2), true);
        check.due("nobody at all", new TheyHearLate().fog(0, 1, 1, 1), false);
    }

    /** Promise 41: the chance that one has the answer in m minutes at most. */
    private static void chanceIsFromNoneToAll() {
        TheyHearLate x = two(2, 9, 3, 1);
        chance(x, 5, 0, 1);
        chance(x, 6, 1, 1);
        chance(x, 7, 1, 1);
        x.fog(0, 1, 0, 0);
        x.fog(1, 1, 0, 0);
        chance(x, 5, 0, 1);
        chance(x, 6, 1, 100);
        chance(x, 8, 1, 100);
        chance(x, 9, 19, 100);
        chance(x, 11, 19, 100);
        chance(x, 12, 1, 1);
        chance(x, 13, 1, 1);
        x.fog(1, 9, 0, 0);
        chance(x, 5, 0, 1);
        chance(x, 6, 9, 100);
        chance(x, 9, 91, 100);
        chance(x, 12, 1, 1);
    }

    /** Promise 41: m minutes (0 .. 199). */
    private static void chanceOfMinutes0To199() {
        TheyHearLate x = two(20, 9, 20, 9);
        x.fog(0, 0, 0, 0);
        x.fog(1, 0, 0, 0);
        chance(x, 0, 0, 1);
        chance(x, 54, 0, 1);
        chance(x, 55, 1, 1);
        chance(x, 199, 1, 1);
    }

    private static void chanceWithLate0() {
        TheyHearLate x = two(0, 0, 0, 0);
        chance(x, 0, 1, 1);
        x.fog(0, 3, 7, 0);
        chance(x, 0, 3, 10);
        chance(x, 1, 1, 1);
    }

    /** Promise 41: NEAR, by themselves; -2: not NEAR. */
    private static void chanceNotNear() {
        TheyHearLate x = two(0, 0, 0, 0);
        x.person(0, 0, 0);
        x.two();
        check.due("not near", x.chance(0, 2, 199), -2);
        check.due("not near", x.chance(2, 0, 0), -2);
        x.link(0, 1, 2, true);
        check.due("by another one", x.chance(0, 2, 199), -2);
        x.link(1, 0, 2, true);
        check.due("seen", x.chance(0, 2, 199), -2);
        check.row("stays", x, 0, 0, 0, 0, 0, 0);
        x.link(0, 0, 2, true);
        check.due("near", x.chance(0, 2, 199), 0);
        x.link(0, 0, 2, false);
        check.due("near no more", x.chance(0, 2, 199), -2);
        world.leaves("chance(0, 4, 9), not near", y -> y.chance(0, 4, 9));
    }

    /** Promise 41: NONE: others, like ones. */
    private static void chanceOfOthers() {
        for (int nobody : NOBODY) {
            world.refuses("nobody " + nobody, -1, x -> x.chance(nobody, 0, 9));
            world.refuses("nobody " + nobody, -1, x -> x.chance(0, nobody, 9));
        }
        for (int i = 0; i < 5; i++) {
            int one = i;
            world.refuses("like ones", -1, x -> x.chance(one, one, 9));
        }
        for (int m : new int[] {-1, 200, Integer.MIN_VALUE, Integer.MAX_VALUE}) {
            world.refuses("minutes " + m, -1, x -> x.chance(0, 1, m));
            world.refuses("minutes " + m + ", not near", -1, x -> x.chance(0, 4, m));
        }
        world.leavesAllButTheRow("chance(0, 1, 9)", x -> x.chance(0, 1, 9));
    }

    /** Promise 42: the fewest minutes in which that is power (1 .. 100) in a hundred at least. */
    private static void sureJustEnough() {
        TheyHearLate x = two(2, 9, 3, 1);
        x.fog(0, 1, 0, 0);
        x.fog(1, 9, 0, 0);
        int[][] powers = {{1, 6}, {8, 6}, {9, 6}, {10, 9}, {90, 9}, {91, 9}, {92, 12}, {99, 12}, {100, 12}};
        for (int[] p : powers) {
            check.due("sure of " + p[0], x.sure(0, 1, p[0]), p[1]);
        }
        TheyHearLate far = two(20, 9, 20, 9);
        check.due("clear", far.sure(0, 1, 1), 49);
        check.due("clear", far.sure(0, 1, 100), 49);
        far.fog(0, 0, 0, 0);
        far.fog(1, 0, 0, 0);
        check.due("in fog", far.sure(0, 1, 1), 55);
        check.due("in fog", far.sure(0, 1, 100), 55);
        TheyHearLate quick = two(0, 9, 0, 0);
        check.due("at once", quick.sure(0, 1, 1), 0);
        check.due("at once", quick.sure(0, 1, 100), 0);
    }

    /** Promise 42: -2 likewise. */
    private static void sureNotNear() {
        TheyHearLate x = two(0, 0, 0, 0);
        x.person(0, 0, 0);
        check.due("not near", x.sure(0, 2, 1), -2);
        x.link(0, 1, 2, true);
        check.due("by another one", x.sure(0, 2, 100), -2);
        x.link(0, 0, 2, true);
        check.due("near", x.sure(0, 2, 100), 0);
    }

    /** Promise 42: NONE: others. */
    private static void sureOfOthers() {
        for (int nobody : NOBODY) {
            world.refuses("nobody " + nobody, -1, x -> x.sure(nobody, 0, 9));
            world.refuses("nobody " + nobody, -1, x -> x.sure(0, nobody, 9));
        }
        for (int i = 0; i < 5; i++) {
            int one = i;
            world.refuses("like ones", -1, x -> x.sure(one, one, 9));
        }
        for (int power : new int[] {0, -1, 101, Integer.MIN_VALUE, Integer.MAX_VALUE}) {
            world.refuses("power " + power, -1, x -> x.sure(0, 1, power));
            world.refuses("power " + power + ", not near", -1, x -> x.sure(0, 4, power));
        }
        world.leaves("sure(0, 1, 100)", x -> x.sure(0, 1, 100));
        world.leaves("sure(0, 4, 100)", x -> x.sure(0, 4, 100));
    }
}
