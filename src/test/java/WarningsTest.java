import java.util.Random;

/** Promises 39 to 42: warnings, fog. */
public final class WarningsTest {
    private static final Check check = new Check("WarningsTest");

    public static void main(String[] args) {
        warns();
        warnsAsTheCartGoes();
        fogs();
        chances();
        surely();
        asAllCasesDo();
        check.end();
    }

    private static TheyHearLate two(int late, int thinks, int otherLate, int otherThinks) {
        TheyHearLate x = new TheyHearLate();
        x.person(late, 0, thinks);
        x.person(otherLate, 0, otherThinks);
        x.person(0, 0, 0);
        x.link(0, 0, 1, true);
        return x;
    }

    /** Promise 39. */
    private static void warns() {
        TheyHearLate x = two(4, 1, 9, 9);
        check.due("50 and 9 and less than 60", x.warn(0, 1, 60, 10, 10), 0);
        check.due("50 is not less than 50", x.warn(0, 1, 50, 10, 10), -2);
        check.due("50 is less than 51", x.warn(0, 1, 51, 10, 10), 0);
        check.due("60 is less than 61", x.warn(0, 1, 61, 10, 10), 1);
        check.due("50 and 1 is not less than 51", x.warn(0, 1, 51, 10, 9), -2);
        check.due("50 and 1 is less than 52", x.warn(0, 1, 52, 10, 9), 0);
        check.due("brakes for long", x.warn(0, 1, 5 * 99 + 98 * 99 / 2 + 1, 99, 1), 0);
        check.due("brakes for too long", x.warn(0, 1, 5 * 99 + 98 * 99 / 2, 99, 1), -2);
        check.due("brakes longer than the way", x.warn(0, 1, 4000, 99, 1), -2);
        check.due("slow on a long way", x.warn(0, 1, 9999, 1, 1), 9998 - 5);
        check.due("can never hear", x.warn(2, 1, 9999, 1, 1), -2);
        x.link(0, 1, 2, true);
        check.due("by another one", x.warn(2, 0, 9999, 1, 1), 9998 - 9 - 9);
        check.due("the other way", x.warn(1, 0, 9999, 1, 1), 9998 - 18);
        int[][] refused = {{0, 0, 9, 9, 9}, {0, 3, 9, 9, 9}, {-1, 0, 9, 9, 9}, {0, 1, 0, 9, 9}, {0, 1, 10000, 9, 9},
                {0, 1, 9, 0, 9}, {0, 1, 9, 100, 9}, {0, 1, 9, 9, 0}, {0, 1, 9, 9, 100}};
        for (int[] r : refused) {
            check.due("warn refused", x.warn(r[0], r[1], r[2], r[3], r[4]), -1);
        }
    }

    private static void warnsAsTheCartGoes() {
        Random random = new Random(39);
        for (int i = 0; i < 300; i++) {
            int late = random.nextInt(6);
            int thinks = random.nextInt(4);
            TheyHearLate x = two(late, thinks, 3, 3);
            int way = 1 + random.nextInt(i % 2 == 0 ? 300 : 2500);
            int speed = 1 + random.nextInt(99);
            int brake = 1 + random.nextInt(i % 3 == 0 ? 99 : 9);
            int want = -2;
            for (int said = 0; said < 2600 && stands(said + late + thinks, way, speed, brake); said++) {
                want = said;
            }
            String call = "warn(0, 1, " + way + ", " + speed + ", " + brake + ")";
            check.due(call, x.warn(0, 1, way, speed, brake), want);
        }
    }

    private static boolean stands(int heard, int way, int speed, int brake) {
        int gone = 0;
        int now = speed;
        for (int minute = 0; gone < way && now > 0; minute++) {
            if (minute >= heard) {
                now -= brake;
            }
            gone += Math.max(now, 0);
        }
        return gone < way;
    }

    /** Promise 40. */
    private static void fogs() {
        TheyHearLate x = two(2, 0, 3, 0);
        check.due("at first none", x.chance(0, 1, 5), 0);
        check.row("at first none", x, 1, 1);
        check.due("fog", x.fog(0, 1, 2, 3), true);
        int[][] refused = {{-1, 1, 1, 1}, {3, 1, 1, 1}, {0, -1, 1, 1}, {0, 1, -1, 1}, {0, 1, 1, -1}, {0, 11, 0, 0},
                {0, 0, 11, 0}, {0, 0, 0, 11}, {0, 5, 5, 1}, {0, 10, 10, 10}, {0, 11, 0, -1},
                {0, Integer.MAX_VALUE, Integer.MAX_VALUE, 2}};
        for (int[] r : refused) {
            check.due("fog refused", x.fog(r[0], r[1], r[2], r[3]), false);
        }
        int[] tenths = {0, 1, 3, 6, 10};
        int[][] rows = {{0, 1}, {1, 10}, {3, 10}, {3, 5}, {1, 1}};
        for (int i = 0; i < tenths.length; i++) {
            check.due("stays", x.chance(0, 1, 4 + i), 0);
            check.row("stays", x, rows[i][0], rows[i][1]);
        }
        check.due("no fog", x.fog(0, 10, 0, 0), true);
        check.due("all of 3", x.fog(1, 0, 0, 0), true);
        check.due("3 more", x.sure(0, 1, 1), 8);
        check.due("2 more", x.fog(1, 0, 0, 10), true);
        check.due("2 more", x.sure(0, 1, 1), 7);
        check.due("1 more", x.fog(1, 0, 10, 0), true);
        check.due("1 more", x.sure(1, 0, 100), 6);
    }

    /** Promise 41. */
    private static void chances() {
        TheyHearLate x = two(2, 8, 3, 1);
        x.fog(0, 5, 5, 0);
        x.fog(1, 2, 0, 8);
        check.due("ahead of all", x.chance(0, 1, 5), 0);
        check.row("ahead of all", x, 0, 1);
        check.due("just then", x.chance(0, 1, 6), 0);
        check.row("just then", x, 1, 10);
        x.chance(0, 1, 7);
        check.row("a minute more", x, 1, 5);
        x.chance(0, 1, 8);
        check.row("two", x, 3, 5);
        x.chance(0, 1, 9);
        check.row("three", x, 1, 1);
        x.chance(0, 1, 199);
        check.row("all", x, 1, 1);
        x.chance(1, 0, 13);
        check.row("the other one thinks longer", x, 1, 10);
        check.due("not near", x.chance(0, 2, 9), -2);
        x.link(0, 1, 2, true);
        check.due("by themselves", x.chance(0, 2, 9), -2);
        check.due("like ones", x.chance(1, 1, 9), -1);
        check.due("none such", x.chance(0, 3, 9), -1);
        check.due("none such", x.chance(-1, 0, 9), -1);
        check.due("minute -1", x.chance(0, 1, -1), -1);
        check.due("minute 200", x.chance(0, 1, 200), -1);
        check.due("minute 200, not near", x.chance(0, 2, 200), -1);
        check.row("stays", x, 1, 10);
    }

    /** Promise 42. */
    private static void surely() {
        TheyHearLate x = two(2, 8, 3, 1);
        x.fog(0, 5, 5, 0);
        x.fog(1, 2, 0, 8);
        x.two();
        int[][] powers = {{1, 6}, {10, 6}, {11, 7}, {20, 7}, {21, 8}, {60, 8}, {61, 9}, {100, 9}};
        for (int[] p : powers) {
            check.due("sure of " + p[0], x.sure(0, 1, p[0]), p[1]);
        }
        check.due("power 0", x.sure(0, 1, 0), -1);
        check.due("power 101", x.sure(0, 1, 101), -1);
        check.due("not near", x.sure(0, 2, 9), -2);
        check.due("power 0, not near", x.sure(0, 2, 0), -1);
        check.due("like ones", x.sure(0, 0, 9), -1);
        check.due("none such", x.sure(0, 3, 9), -1);
        check.row("stays", x, 0, 0, 0, 0, 0, 0);
        TheyHearLate slow = two(20, 9, 20, 9);
        slow.fog(0, 0, 0, 0);
        slow.fog(1, 0, 0, 0);
        check.due("the latest", slow.sure(0, 1, 1), 55);
        TheyHearLate quick = two(0, 0, 0, 0);
        check.due("at once", quick.sure(0, 1, 100), 0);
    }

    private static void asAllCasesDo() {
        Random random = new Random(41);
        for (int i = 0; i < 100; i++) {
            int late = random.nextInt(4);
            int otherLate = random.nextInt(4);
            int thinks = random.nextInt(3);
            TheyHearLate x = two(late, 9, otherLate, thinks);
            int[] one = fogOf(x, 0, random);
            int[] other = fogOf(x, 1, random);
            int least = 0;
            int power = 1 + random.nextInt(100);
            for (int m = 15; m >= 0; m--) {
                int cases = 0;
                for (int c = 0; c < 100; c++) {
                    cases += otherLate + other[c / 10] + thinks + late + one[c % 10] <= m ? 1 : 0;
                }
                least = cases >= power ? m : least;
                int common = java.math.BigInteger.valueOf(cases).gcd(java.math.BigInteger.valueOf(100)).intValue();
                check.due("chance", x.chance(0, 1, m), 0);
                check.row("chance", x, cases / common, 100 / common);
            }
            check.due("sure", x.sure(0, 1, power), least);
        }
    }

    /** How many minutes more in each of ten cases. */
    private static int[] fogOf(TheyHearLate x, int person, Random random) {
        int a = random.nextInt(11);
        int b = random.nextInt(11 - a);
        int c = random.nextInt(11 - a - b);
        x.fog(person, a, b, c);
        int[] more = new int[10];
        for (int i = 0; i < 10; i++) {
            more[i] = i < a ? 0 : i < a + b ? 1 : i < a + b + c ? 2 : 3;
        }
        return more;
    }
}
