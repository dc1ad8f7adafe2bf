/** The bounds that Promises 19 to 23 name, each at the bound and past it. */
public final class EachRuleBoundsTest {
    private static final Check check = new Check("EachRuleBoundsTest");
    private static final int[] NOBODY = {-1, 5, 6, Integer.MIN_VALUE, Integer.MAX_VALUE};
    private static final World world = new World(check, World::five);

    public static void main(String[] args) {
        rulesFromAndTo();
        rulesOfEqualOnesTheFirst();
        rulesNoneTold();
        rulesOfOthers();
        rulesByR1();
        rulesAndPairChangeNothing();
        pairOfAllThatAreTold();
        pairOfEqualOnesTheLeast();
        pairNoneTold();
        pairOfOthers();
        echoOfNoMinutes();
        echoOfOtherThan0();
        echoTheMostOnEnd();
        echoOfNoneSuch();
        waitsOfNoMinutes();
        waitsTheMostOnEnd();
        waitsAgainstAll();
        waitsOfNoneSuch();
        swingsOfNoMinutes();
        swingsLeaveOutThoseAtDue();
        swingsByHalves();
        swingsByDueAsItIsNow();
        check.end();
    }

    private static TheyHearLate people(int n) {
        TheyHearLate x = new TheyHearLate();
        for (int i = 0; i < n; i++) {
            x.person(1, 0, 0);
        }
        return x;
    }

    /** Rules of DO 0, 2, .. 10 of -1, -2, .. -6, and all of SAY told; START 100. */
    private static TheyHearLate steps(int people) {
        TheyHearLate x = people(people);
        x.beam(0, 100);
        for (int i = 0; i < 12; i++) {
            Check.rule(x, i, "-" + (i / 2 + 1));
        }
        return x;
    }

    /** Promise 19: of RULES i from .. to (of DO, even ones; 0 .. 11). */
    private static void rulesFromAndTo() {
        for (int from = 0; from < 12; from++) {
            for (int to = from; to < 12; to++) {
                TheyHearLate x = steps(1);
                int best = to / 2 * 2;
                boolean any = best >= from;
                x.two();
                check.due("rules " + from + " to " + to, x.rules(0, from, to, 1), any ? best : -2);
                if (any) {
                    check.row("its cost", x, 99 - best / 2);
                } else {
                    check.row("tells none", x, 0, 0, 0, 0, 0, 0);
                }
            }
        }
        TheyHearLate x = steps(6);
        check.due("the last of people", x.rules(5, 0, 11, 1), 10);
        check.due("the first of people, 199 minutes", x.rules(0, 0, 0, 199), 0);
    }

    /** Promise 19: of equal ones the first. */
    private static void rulesOfEqualOnesTheFirst() {
        TheyHearLate x = people(1);
        x.beam(0, 5);
        String[] texts = {"1", "-2", "-8", "-6", "-4", "-5-0"};
        for (int i = 0; i < 6; i++) {
            Check.rule(x, 2 * i, texts[i]);
        }
        check.due("-5", x.rules(0, 0, 11, 1), 10);
        check.row("at due", x, 0);
        check.due("-6 ahead of -4", x.rules(0, 0, 9, 1), 6);
        check.row("one off", x, 1);
        check.due("-4", x.rules(0, 7, 9, 1), 8);
        check.due("-2 ahead of -8", x.rules(0, 0, 5, 1), 2);
        check.row("three off", x, 3);
    }

    /** Promise 19: -2: none told. */
    private static void rulesNoneTold() {
        TheyHearLate x = people(1);
        check.due("none", x.rules(0, 0, 11, 1), -2);
        Check.rule(x, 1, "1");
        Check.rule(x, 3, "1");
        check.due("of say alone", x.rules(0, 0, 11, 1), -2);
        Check.rule(x, 4, "0");
        check.due("ahead of it", x.rules(0, 0, 3, 1), -2);
        check.due("up to it", x.rules(0, 0, 4, 1), 4);
        check.due("from it on", x.rules(0, 4, 11, 1), 4);
        check.due("behind it", x.rules(0, 5, 11, 1), -2);
        x.rule(4);
        check.due("told no more", x.rules(0, 0, 11, 1), -2);
    }

    /** Promise 19: NONE: others (from above to; 0 .. 11; n as there). */
    private static void rulesOfOthers() {
        for (int nobody : NOBODY) {
            world.refuses("nobody " + nobody, -1, x -> x.rules(nobody, 0, 11, 5));
        }
        int[][] fromTo = {{-1, 11}, {0, 12}, {1, 0}, {11, 10}, {12, 12}, {12, 11}, {-1, -1}, {0, -1}, {Integer.MIN_VALUE, 11},
                {0, Integer.MAX_VALUE}, {Integer.MAX_VALUE, Integer.MIN_VALUE}};
        for (int[] f : fromTo) {
            world.refuses("from " + f[0] + " to " + f[1], -1, x -> x.rules(0, f[0], f[1], 5));
        }
        for (int n : new int[] {0, -1, 200, Integer.MIN_VALUE, Integer.MAX_VALUE}) {
            world.refuses("n " + n, -1, x -> x.rules(0, 0, 11, n));
            world.refuses("n " + n + ", none told", -1, x -> x.rules(0, 4, 4, n));
        }
        world.leaves("none told", x -> x.rules(0, 4, 6, 5));
        check.due("n 199", world.make().rules(0, 0, 11, 199) >= 0, true);
        check.due("n 1", world.make().rules(0, 0, 11, 1) >= 0, true);
    }

    /** Promises 19 and 20: with which would() of n, R 1, is the least COST: R 1 draws 8, R 0 draws 0, R 2 draws 7. */
    private static void rulesByR1() {
        TheyHearLate x = people(2);
        Check.rule(x, 0, "0");
        Check.rule(x, 2, "-1");
        x.beam(3, 2);
        x.seed(0);
        check.due("no wind of R 0", x.would(1, 0), 1);
        check.due("wind up of R 1", x.would(1, 1), 0);
        check.due("no wind of R 2", x.would(1, 2), 1);
        check.due("-1 ahead of wind up", x.rules(0, 0, 11, 1), 0);
        check.row("-1 ahead of wind up", x, 0);
        check.due("0 and -1", x.pair(0, 1, 1), 0);
        check.row("0 and -1", x, 0, 2);
        x.beam(3, 1);
        check.due("no wind of R 1", x.rules(1, 0, 11, 1), 0);
        check.due("no wind of R 1", x.pair(0, 1, 1), 0);
        check.row("no wind of R 1", x, 0, 0);
        check.due("R stays", x.seed(1), 0);
    }

    private static void rulesAndPairChangeNothing() {
        for (int i = 0; i < 5; i++) {
            int one = i;
            int other = (i + 1) % 5;
            world.leavesAllButTheRow("pair(" + one + ", " + other + ", 9)", x -> x.pair(one, other, 9));
            world.leavesAllButTheRow("rules(" + one + ", 8, 9, 9)", x -> x.rules(one, 8, 9, 9));
        }
        world.leavesAllButTheRow("rules(0, 0, 11, 199)", x -> x.rules(0, 0, 11, 199));
        world.leavesAllButTheRow("rules(4, 10, 11, 1)", x -> x.rules(4, 10, 11, 1));
        world.leavesAllButTheRow("pair(0, 4, 199)", x -> x.pair(0, 4, 199));
        world.leavesAllButTheRow("pair(3, 2, 1)", x -> x.pair(3, 2, 1));
    }

    /** Promise 20: each one of those of DO (even ones) that are told. */
    private static void pairOfAllThatAreTold() {
        TheyHearLate x = steps(2);
        check.due("-6 and -6", x.pair(0, 1, 1), 88);
        check.row("-6 and -6", x, 10, 10);
        check.due("199 minutes", x.pair(0, 1, 199) > 0, true);
        Check.rule(x, 0, "-9");
        x.rule(10);
        check.due("-9 and -9", x.pair(1, 0, 1), 82);
        check.row("-9 and -9", x, 0, 0);
        TheyHearLate one = people(2);
        Check.rule(one, 10, "-9");
        Check.rule(one, 11, "9");
        check.due("the last alone", one.pair(0, 1, 1), 18);
        check.row("the last alone", one, 10, 10);
    }

    /** Promise 20: of equal ones the least for the one, then for the other. */
    private static void pairOfEqualOnesTheLeast() {
        TheyHearLate x = people(2);
        x.beam(0, 5);
        String[] texts = {"-1", "-2", "-3", "-4", "-1", "-4"};
        for (int i = 0; i < 6; i++) {
            Check.rule(x, 2 * i, texts[i]);
        }
        check.due("-1 and -4 ahead of all", x.pair(0, 1, 1), 0);
        check.row("-1 and -4 ahead of all", x, 0, 6);
        check.due("told the other way round", x.pair(1, 0, 1), 0);
        check.row("told the other way round", x, 0, 6);
        x.rule(0);
        check.due("-2 and -3 ahead of all", x.pair(1, 0, 1), 0);
        check.row("-2 and -3 ahead of all", x, 2, 4);
        x.rule(2);
        check.due("-4 and -1", x.pair(0, 1, 1), 0);
        check.row("-4 and -1", x, 6, 8);
    }

    /** Promise 20: -2: none told. */
    private static void pairNoneTold() {
        TheyHearLate x = people(2);
        check.due("none", x.pair(0, 1, 1), -2);
        for (int i = 1; i < 12; i += 2) {
            Check.rule(x, i, "1");
        }
        check.due("of say alone", x.pair(0, 1, 1), -2);
        World said = new World(check, () -> {
            TheyHearLate y = World.five();
            for (int i = 0; i < 12; i += 2) {
                y.end(0);
                y.rule(i);
            }
            return y;
        });
        said.leaves("none told", y -> y.pair(0, 1, 1));
        Check.rule(x, 6, "0");
        check.due("one of 0", x.pair(0, 1, 1), 0);
        check.row("one of 0", x, 6, 6);
    }

    /** Promise 20: NONE: others; of two unlike ones; n as in would(). */
    private static void pairOfOthers() {
        for (int nobody : NOBODY) {
            world.refuses("nobody " + nobody, -1, x -> x.pair(nobody, 0, 5));
            world.refuses("nobody " + nobody, -1, x -> x.pair(0, nobody, 5));
        }
        for (int i = 0; i < 5; i++) {
            int one = i;
            world.refuses("like ones", -1, x -> x.pair(one, one, 5));
        }
        for (int n : new int[] {0, -1, 200, Integer.MIN_VALUE, Integer.MAX_VALUE}) {
            world.refuses("n " + n, -1, x -> x.pair(0, 1, n));
        }
        check.due("nobody, nothing told", new TheyHearLate().pair(0, 1, 1), -1);
        check.due("one alone", people(1).pair(0, 0, 1), -1);
    }

    /** The first says what a text tells, the other one says what it hears, a minute on. */
    private static TheyHearLate echoing(String says, int minutes) {
        TheyHearLate x = people(2);
        x.link(0, 0, 1, true);
        Check.rule(x, 1, says);
        Check.rule(x, 3, "h");
        x.go(minutes);
        return x;
    }

    /** Promise 21: MINUTES that went by; how many. */
    private static void echoOfNoMinutes() {
        TheyHearLate x = echoing("5", 0);
        check.due("none", x.echo(1), 0);
        check.row("none", x, 0);
        x.go(1);
        check.due("minute 0: nothing heard", x.echo(1), 0);
        check.row("minute 0: nothing heard", x, 0);
        x.go(1);
        check.due("minute 1", x.echo(1), 1);
        check.row("minute 1", x, 1);
        x.go(197);
        check.due("minutes 1 to 198", x.echo(1), 198);
        check.row("minutes 1 to 198", x, 198);
    }

    /** Promise 21: just what it HEARD in them, and that was not 0. */
    private static void echoOfOtherThan0() {
        check.due("0 is none", echoing("0", 9).echo(1), 0);
        check.due("1", echoing("1", 9).echo(1), 8);
        check.due("-1", echoing("-1", 9).echo(1), 8);
        check.due("99", echoing("99", 9).echo(1), 8);
        TheyHearLate x = echoing("5", 0);
        Check.rule(x, 3, "h+1");
        x.go(3);
        check.due("not just that", x.echo(1), 0);
        Check.rule(x, 3, "-h");
        x.go(3);
        check.due("not just that", x.echo(1), 0);
        x.begin();
        x.person(1, 0, 0);
        x.link(0, 1, 2, true);
        Check.rule(x, 3, "h");
        Check.rule(x, 5, "95");
        x.go(3);
        check.due("100 heard, 99 said", x.echo(1), 0);
        Check.rule(x, 5, "94");
        x.begin();
        x.go(3);
        check.due("99 heard, 99 said", x.echo(1), 2);
    }

    /** Promise 21: the most of them one behind the other. */
    private static void echoTheMostOnEnd() {
        TheyHearLate x = echoing("t<1", 9);
        check.due("minute 1", x.echo(1), 1);
        check.row("minute 1", x, 1);
        x = echoing("t<3|t>4&t<9|t=10", 12);
        check.due("minutes 1 - 3, 6 - 9, 11", x.echo(1), 8);
        check.row("minutes 6 - 9", x, 4);
        x = echoing("t<4|t>4", 7);
        check.due("minutes 1 - 4, 6", x.echo(1), 5);
        check.row("minutes 1 - 4", x, 4);
        x = echoing("t<2|t>4", 10);
        check.due("minutes 1, 2, 6 - 9", x.echo(1), 6);
        check.row("to the end", x, 4);
    }

    /** Promise 21: NONE: none such. */
    private static void echoOfNoneSuch() {
        for (int nobody : NOBODY) {
            world.refuses("echo(" + nobody + ")", -1, x -> x.echo(nobody));
        }
        check.due("nobody", new TheyHearLate().echo(0), -1);
        world.leavesAllButTheRow("echo(4)", x -> x.echo(4));
    }

    private static TheyHearLate waiting(String does, int minutes) {
        TheyHearLate x = people(1);
        Check.rule(x, 0, does);
        x.go(minutes);
        return x;
    }

    /** Promise 22: MINUTES that went by in which one did nothing: how many. */
    private static void waitsOfNoMinutes() {
        TheyHearLate x = waiting("t<2", 0);
        check.due("none", x.waits(0), 0);
        check.row("none", x, 0, 0);
        x.go(2);
        check.due("minutes 0, 1 not", x.waits(0), 0);
        check.row("minutes 0, 1 not", x, 0, 0);
        x.go(1);
        check.due("minute 2", x.waits(0), 1);
        check.row("minute 2", x, 1, 0);
        x = waiting("", 199);
        check.due("all", x.waits(0), 199);
        check.row("all", x, 199, 0);
        x = waiting("-1", 199);
        check.due("none", x.waits(0), 0);
        check.row("none", x, 0, 0);
    }

    /** Promise 22: the most of them one behind the other. */
    private static void waitsTheMostOnEnd() {
        TheyHearLate x = waiting("t=2|t=6|t=9", 12);
        check.due("0 1, 3 4 5, 7 8, 10 11", x.waits(0), 9);
        check.row("3 4 5", x, 3, 0);
        x = waiting("t=2|t=6", 12);
        check.due("0 1, 3 4 5, 7 to 11", x.waits(0), 10);
        check.row("to the end", x, 5, 0);
        x = waiting("t>5&!(t=8)", 12);
        check.due("0 to 5, 8", x.waits(0), 7);
        check.row("from the first", x, 6, 0);
    }

    /** Promise 22: what one did was above 0 and what all did together below 0, or the other way round. */
    private static void waitsAgainstAll() {
        int[][] cases = {{1, -2, 1}, {1, -1, 0}, {1, 0, 0}, {-1, 2, 1}, {-1, 1, 0}, {-1, 0, 0}, {0, 5, 0}, {0, -5, 0},
                {9, -9, 0}, {8, -9, 1}, {-8, 9, 1}, {2, -1, 0}, {-2, 1, 0}};
        for (int[] c : cases) {
            TheyHearLate x = people(2);
            Check.rule(x, 0, String.valueOf(c[0]));
            Check.rule(x, 2, String.valueOf(c[1]));
            x.go(1);
            check.due("waits of " + c[0], x.waits(0), c[0] == 0 ? 1 : 0);
            check.row(c[0] + " with " + c[1], x, c[0] == 0 ? 1 : 0, c[2]);
        }
    }

    /** Promise 22: NONE: none such. */
    private static void waitsOfNoneSuch() {
        for (int nobody : NOBODY) {
            world.refuses("waits(" + nobody + ")", -1, x -> x.waits(nobody));
        }
        check.due("nobody", new TheyHearLate().waits(0), -1);
        world.leavesAllButTheRow("waits(4)", x -> x.waits(4));
    }

    private static void swings(int turns, int first, int behind, int... places) {
        TheyHearLate x = people(1);
        x.beam(0, places[0]);
        for (int m = 1; m < places.length; m++) {
            Check.rule(x, 0, String.valueOf(places[m] - places[m - 1]));
            x.go(1);
        }
        check.due("swings in minute " + (places.length - 1), x.swings(), turns);
        check.row("swings in minute " + (places.length - 1), x, first, behind);
    }

    /** Promise 23: and behind that to NOW (0 without). */
    private static void swingsOfNoMinutes() {
        swings(0, 0, 0, 0);
        swings(0, 7, 0, 7);
        swings(0, 7, 0, -7);
        TheyHearLate x = new TheyHearLate();
        check.due("a new one", x.swings(), 0);
        check.row("a new one", x, 0, 0);
    }

    /** Promise 23: from one side of DUE to the other (those at DUE left out). */
    private static void swingsLeaveOutThoseAtDue() {
        swings(1, 1, 1, 1, -1);
        swings(1, 1, 1, -1, 1);
        swings(0, 1, 0, 1, 0);
        swings(0, 0, 1, 0, 1);
        swings(1, 1, 1, 1, 0, -1);
        swings(1, 1, 1, 1, 0, 0, 0, -1);
        swings(0, 1, 1, 1, 0, 1);
        swings(0, 1, 1, -1, 0, -1);
        swings(3, 1, 1, 1, -1, 1, -1);
        swings(2, 2, 2, 1, 2, -1, -2, 1, 1);
    }

    /** Promise 23: the greatest size in MINUTES from 0 to NOW by 2 (cut), and behind that to NOW. */
    private static void swingsByHalves() {
        swings(0, 3, 5, 3, 5);
        swings(0, 5, 7, 3, 5, 7);
        swings(0, 5, 9, 3, 5, 7, 9);
        swings(0, 7, 9, 3, 5, 7, 9, 8);
        swings(0, 9, 7, 9, 7);
        swings(0, 9, 5, 9, 7, 5);
        swings(0, 9, 5, 9, 7, 5, 3);
        TheyHearLate x = people(1);
        Check.rule(x, 0, "1");
        x.go(198);
        x.swings();
        check.row("to 99, to 198", x, 99, 198);
        x.go(1);
        x.swings();
        check.row("to 99, to 199", x, 99, 199);
    }

    /** Promise 23: DUE (as it is now). */
    private static void swingsByDueAsItIsNow() {
        TheyHearLate x = people(1);
        Check.rule(x, 0, "4-8*(t=1)");
        x.go(4);
        check.due("0 4 0 4 8", x.swings(), 0);
        check.row("0 4 0 4 8", x, 4, 8);
        x.beam(1, 2);
        check.due("-2 2 -2 2 6", x.swings(), 3);
        check.row("-2 2 -2 2 6", x, 2, 6);
        x.beam(1, 4);
        check.due("-4 0 -4 0 4", x.swings(), 1);
        check.row("-4 0 -4 0 4", x, 4, 4);
        x.beam(1, 99);
        check.due("all below", x.swings(), 0);
        check.row("all below", x, 99, 95);
    }
}
