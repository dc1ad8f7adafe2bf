/** The bounds that Promises 11 to 18 name, each at the bound and past it. */
public final class MinutesBoundsTest {
    private static final Check check = new Check("MinutesBoundsTest");
    private static final int[] NOBODY = {-1, 5, 6, Integer.MIN_VALUE, Integer.MAX_VALUE};
    private static final World world = new World(check, World::five);

    public static void main(String[] args) {
        goOf0To199();
        goTo199AtMost();
        goOfOthers();
        beginInAnyMinute();
        beginWithNothingSaidOrDone();
        placeUpToNow();
        placeOfOthers();
        wasInMinutesThatWentBy();
        wasOfNoneSuch();
        wasOfOneToldLater();
        wasAsItWasThen();
        costOfNoMinutes();
        costSettledFrom();
        costByDueAsItIsNow();
        crossedInTheSameMinute();
        crossedBeforeItIsHeard();
        crossedWithLate0();
        crossedOfNumbersOtherThan0();
        crossedEachTwoOnce();
        crossedAsTheyAreNow();
        byItsLate();
        byBelow0();
        byOfOthers();
        wouldOf1To199();
        wouldOfOthers();
        wouldChangesNothing();
        check.end();
    }

    private static TheyHearLate people(int... late) {
        TheyHearLate x = new TheyHearLate();
        for (int l : late) {
            x.person(l, 0, 0);
        }
        return x;
    }

    /** Promise 11: n MINUTES (0 .. 199) go by: PLACE then. */
    private static void goOf0To199() {
        int[] all = {0, 1, 2, 198, 199};
        for (int n : all) {
            TheyHearLate x = people(0);
            x.beam(0, -100);
            Check.rule(x, 0, "1");
            check.due("go(" + n + ")", x.go(n), n - 100);
            check.due("now", x.count(1), n);
            check.due("place", x.place(n), n - 100);
        }
        world.leaves("go(0)", x -> x.go(0));
        check.due("go(0)", world.make().go(0), world.make().place(7));
    }

    /** Promise 11: to NOW 199 at most. */
    private static void goTo199AtMost() {
        int[][] goes = {{100, 99, 199}, {100, 100, 199}, {198, 2, 199}, {199, 1, 199}, {199, 199, 199}, {1, 199, 199},
                {1, 198, 199}, {1, 197, 198}};
        for (int[] g : goes) {
            TheyHearLate x = people(0);
            x.beam(0, -100);
            Check.rule(x, 0, "1");
            x.go(g[0]);
            check.due("go(" + g[1] + ") behind " + g[0], x.go(g[1]), g[2] - 100);
            check.due("now", x.count(1), g[2]);
        }
        TheyHearLate x = people(1);
        Check.rule(x, 0, "t");
        x.beam(3, 4);
        x.beam(2, 4);
        int place = x.go(199);
        int r = x.seed(3);
        check.due("in minute 199", x.go(199), place);
        check.due("no draw in minute 199", x.seed(r), 3);
        World last = new World(check, () -> {
            TheyHearLate y = World.five();
            y.go(30);
            y.go(162);
            return y;
        });
        last.leaves("go(1) in minute 199", y -> y.go(1));
        last.leaves("go(199) in minute 199", y -> y.go(199));
    }

    /** Promise 11: NoSuchElementException: others. */
    private static void goOfOthers() {
        for (int n : new int[] {-1, 200, Integer.MIN_VALUE, Integer.MAX_VALUE}) {
            world.throwsNoSuch("go(" + n + ")", x -> x.go(n));
            check.isThrown("go(" + n + ") of a new one", () -> new TheyHearLate().go(n));
        }
    }

    /** Promise 12: NOW is MINUTE 0 again, PLACE START: true. */
    private static void beginInAnyMinute() {
        for (int n : new int[] {0, 1, 199}) {
            TheyHearLate x = people(0);
            x.beam(0, 12);
            Check.rule(x, 0, "1");
            x.go(n);
            check.due("begin", x.begin(), true);
            check.due("now", x.count(1), 0);
            check.due("place", x.place(0), 12);
            check.isThrown("minute 1", () -> x.place(1));
            check.due("go", x.go(2), 14);
        }
        new World(check, World::begun).leaves("begin in minute 0", x -> x.begin() ? 1 : 0);
    }

    /** Promise 12: nothing said or done. */
    private static void beginWithNothingSaidOrDone() {
        TheyHearLate x = people(1, 2);
        x.link(0, 0, 1, true);
        Check.rule(x, 0, "a+h+1");
        Check.rule(x, 1, "4");
        Check.rule(x, 3, "5");
        Check.rule(x, 2, "h");
        x.go(9);
        x.begin();
        check.due("nothing done or heard", x.does(0, 0), 1);
        check.due("nothing heard", x.does(1, 0), 0);
        check.due("nothing crossed", x.crossed(), 0);
        check.due("no cost", x.cost(), 0);
        check.due("nothing echoed", x.echo(0), 0);
        check.due("nobody waited", x.waits(0), 0);
        check.due("no swings", x.swings(), 0);
        check.isThrown("nothing was", () -> x.was(0, 0, 0));
        x.go(2);
        check.due("minute 0: nothing heard", x.was(1, 0, 2), 0);
        check.due("minute 1, of one late by 2: nothing heard", x.was(1, 1, 2), 0);
        check.due("minute 1, of one late by 1", x.was(0, 1, 2), 5);
    }

    /** Promise 13: PLACE as a MINUTE began (up to NOW). */
    private static void placeUpToNow() {
        TheyHearLate x = people(0);
        x.beam(0, -999);
        Check.rule(x, 0, "9");
        check.due("place(0)", x.place(0), -999);
        x.go(199);
        check.due("place(0)", x.place(0), -999);
        check.due("place(1)", x.place(1), -990);
        check.due("place(198)", x.place(198), 198 * 9 - 999);
        check.due("place(199)", x.place(199), 199 * 9 - 999);
    }

    /** Promise 13: NoSuchElementException: others. */
    private static void placeOfOthers() {
        for (int m : new int[] {-1, 8, 199, 200, Integer.MIN_VALUE, Integer.MAX_VALUE}) {
            world.throwsNoSuch("place(" + m + ") in minute 7", x -> x.place(m));
        }
        world.leaves("place(7)", x -> x.place(7));
        check.isThrown("place(1) of a new one", () -> new TheyHearLate().place(1));
        TheyHearLate x = people(0);
        x.go(199);
        check.due("place(199)", x.place(199), 0);
        check.isThrown("place(200)", () -> x.place(200));
    }

    /** Promise 14: what one did, said, HEARD, saw in a MINUTE that went by. */
    private static void wasInMinutesThatWentBy() {
        TheyHearLate x = people(1, 1);
        x.beam(0, 500);
        x.link(0, 0, 1, true);
        Check.rule(x, 0, "-(t<9)");
        Check.rule(x, 1, "t-100");
        x.go(199);
        int[][] first = {{-1, -100 + 1, 0, 500}, {0, 98, 0, 491}};
        int[][] second = {{0, 0, 0, 500}, {0, 0, 97, 491}};
        for (int what = 0; what < 4; what++) {
            check.due("in minute 0", x.was(0, 0, what), first[0][what]);
            check.due("in minute 198", x.was(0, 198, what), first[1][what]);
            check.due("in minute 0", x.was(1, 0, what), second[0][what]);
            check.due("in minute 198", x.was(1, 198, what), second[1][what]);
        }
    }

    /** Promise 14: NoSuchElementException: none such. */
    private static void wasOfNoneSuch() {
        for (int what = 0; what < 4; what++) {
            int w = what;
            for (int nobody : NOBODY) {
                world.throwsNoSuch("was(" + nobody + ", 0, " + w + ")", x -> x.was(nobody, 0, w));
            }
            for (int m : new int[] {-1, 7, 8, 199, Integer.MIN_VALUE, Integer.MAX_VALUE}) {
                world.throwsNoSuch("was(0, " + m + ", " + w + ") in minute 7", x -> x.was(0, m, w));
            }
            world.leaves("was(4, 6, " + w + ")", x -> x.was(4, 6, w));
            check.isThrown("of a new one", () -> people(0).was(0, 0, w));
        }
        for (int what : new int[] {-1, 4, Integer.MIN_VALUE, Integer.MAX_VALUE}) {
            world.throwsNoSuch("was(0, 0, " + what + ")", x -> x.was(0, 0, what));
        }
        TheyHearLate x = people(0);
        x.go(199);
        check.due("minute 198", x.was(0, 198, 0), 0);
        check.isThrown("minute 199", () -> x.was(0, 199, 0));
    }

    /** Promise 14: 0 of one told later. */
    private static void wasOfOneToldLater() {
        TheyHearLate x = people(1);
        x.beam(0, 30);
        Check.rule(x, 1, "8");
        Check.rule(x, 2, "7");
        Check.rule(x, 3, "6");
        x.go(3);
        x.person(1, 0, 0);
        x.link(0, 0, 1, true);
        x.go(1);
        for (int m = 0; m < 3; m++) {
            for (int what = 0; what < 4; what++) {
                check.due("ahead of it", x.was(1, m, what), 0);
            }
        }
        int[] then = {7, 6, 8, 30};
        for (int what = 0; what < 4; what++) {
            check.due("in its first minute", x.was(1, 3, what), then[what]);
        }
        check.due("what it did not say is not heard", x.was(0, 3, 2), 0);
        x.go(1);
        check.due("what it said is heard", x.was(0, 4, 2), 6);
    }

    /** Promise 14: as it was then. */
    private static void wasAsItWasThen() {
        TheyHearLate x = world.make();
        long[] then = new long[4 * 5 * 7];
        for (int i = 0; i < then.length; i++) {
            then[i] = x.was(i / 28, i / 4 % 7, i % 4);
        }
        for (int i = 0; i < 5; i++) {
            x.set(i, 0, 0);
            x.set(i, 1, 0);
            for (int j = 0; j < i; j++) {
                x.link(0, i, j, (i + j) % 2 == 0);
            }
        }
        for (int i = 0; i < 12; i++) {
            x.rule(i);
        }
        x.beam(1, 9);
        x.seed(3);
        for (int i = 0; i < then.length; i++) {
            check.due("was", x.was(i / 28, i / 4 % 7, i % 4), then[i]);
        }
    }

    /** Promise 15: COST of all MINUTES that went by; the ROW. */
    private static void costOfNoMinutes() {
        TheyHearLate x = new TheyHearLate();
        check.due("none", x.cost(), 0);
        check.row("at due", x, 0, 0);
        x.beam(0, 999);
        check.due("none", x.cost(), 0);
        check.row("not at due", x, -1, 999);
        x.beam(0, -999);
        x.beam(1, 99);
        check.due("none", x.cost(), 0);
        check.row("as far as can be", x, -1, 1098);
        x.go(199);
        check.due("as dear as can be", x.cost(), 199 * 1098);
        check.row("as far as can be", x, -1, 1098);
    }

    /** Promise 15: the first MINUTE from which on PLACE (up to NOW) was never other than DUE (NONE, if it is not so now). */
    private static void costSettledFrom() {
        settled(-1, 2);
        settled(0, 0);
        settled(0, 0, 0);
        settled(0, 0, 0, 0);
        settled(1, 1, 0, 0);
        settled(2, 0, 1, 0);
        settled(-1, 0, 0, 1);
        settled(-1, 0, 1, 1);
        settled(4, 0, 0, 2, -1, 0, 0);
        settled(-1, 0, 0, 2, -1, 0, -1);
        TheyHearLate x = people(0);
        x.beam(0, 1);
        Check.rule(x, 0, "-(t=198)");
        x.go(199);
        check.due("cost", x.cost(), 198);
        check.row("settled in the last", x, 199, 1);
    }

    /** PLACE as MINUTES begin, one behind the other, none farther than 9 from the one ahead. */
    private static void settled(int from, int... places) {
        TheyHearLate x = course(places);
        int sum = 0;
        int most = 0;
        for (int m = 0; m < places.length; m++) {
            check.due("place", x.place(m), places[m]);
            sum += m == 0 ? 0 : Math.abs(places[m]);
            most = Math.max(most, Math.abs(places[m]));
        }
        check.due("cost", x.cost(), sum);
        check.row("settled", x, from, most);
    }

    private static TheyHearLate course(int... places) {
        TheyHearLate x = people(0);
        x.beam(0, places[0]);
        for (int m = 1; m < places.length; m++) {
            Check.rule(x, 0, String.valueOf(places[m] - places[m - 1]));
            x.go(1);
        }
        return x;
    }

    /** Promise 15: DUE as it is now. */
    private static void costByDueAsItIsNow() {
        TheyHearLate x = course(5, 3, 3);
        check.due("due 0", x.cost(), 6);
        check.row("due 0", x, -1, 5);
        x.beam(1, 3);
        check.due("due 3", x.cost(), 0);
        check.row("due 3", x, 1, 2);
        x.beam(1, 5);
        check.due("due 5", x.cost(), 4);
        check.row("due 5", x, -1, 2);
        x.keep(0);
        x.beam(1, -3);
        x.again(0);
        check.due("due -3, as it is", x.cost(), 12);
        check.row("due -3, as it is", x, -1, 8);
    }

    /** Two near to one another; the first says once, in minute 5; the other one in one minute too. */
    private static int crossings(int late, int other, int minute) {
        TheyHearLate x = people(late, other);
        x.link(0, 0, 1, true);
        Check.rule(x, 1, "t=5");
        Check.rule(x, 3, "-(t=" + minute + ")");
        x.go(60);
        return x.crossed();
    }

    /** Promise 16: in the same MINUTE. */
    private static void crossedInTheSameMinute() {
        for (int late = 0; late <= 20; late += 10) {
            check.due("late " + late, crossings(late, 0, 5), 1);
            check.due("late " + late, crossings(0, late, 5), 1);
            check.due("late " + late, crossings(late, late, 5), 1);
        }
    }

    /** Promise 16: or a later one, but fewer minutes later than its own LATE. */
    private static void crossedBeforeItIsHeard() {
        for (int late : new int[] {1, 2, 3, 20}) {
            check.due("just before it hears it", crossings(9, late, 5 + late - 1), 1);
            check.due("as it hears it", crossings(9, late, 5 + late), 0);
            check.due("behind it", crossings(9, late, 5 + late + 1), 0);
        }
        check.due("the other way round: as it hears it", crossings(4, 9, 1), 0);
        check.due("the other way round: just before it", crossings(4, 9, 2), 1);
        TheyHearLate x = people(20, 20);
        x.link(0, 0, 1, true);
        Check.rule(x, 1, "t=0");
        Check.rule(x, 3, "t=19");
        x.go(19);
        check.due("minute 19 is to come", x.crossed(), 0);
        x.go(1);
        check.due("minute 19 went by", x.crossed(), 1);
    }

    /** Promise 16: 1, if that is 0. */
    private static void crossedWithLate0() {
        check.due("the same minute", crossings(9, 0, 5), 1);
        check.due("a minute later", crossings(9, 0, 6), 0);
        check.due("the same minute", crossings(9, 1, 5), 1);
        check.due("a minute later", crossings(9, 1, 6), 0);
        check.due("a minute later", crossings(9, 2, 6), 1);
    }

    /** Promise 16: a number other than 0. */
    private static void crossedOfNumbersOtherThan0() {
        String[] says = {"0", "1", "-1", "99", "-99", ""};
        int[] crossed = {0, 3, 3, 3, 3, 0};
        for (int i = 0; i < says.length; i++) {
            TheyHearLate x = people(1, 1);
            x.link(0, 0, 1, true);
            Check.rule(x, 1, says[i]);
            Check.rule(x, 3, "1");
            x.go(3);
            check.due("says " + says[i], x.crossed(), crossed[i]);
        }
    }

    /** Promise 16: each two such words once. */
    private static void crossedEachTwoOnce() {
        TheyHearLate x = people(2, 3, 1);
        check.due("nobody near", x.crossed(), 0);
        x.link(0, 0, 1, true);
        for (int i = 1; i < 6; i += 2) {
            Check.rule(x, i, "1");
        }
        check.due("no minute", x.crossed(), 0);
        x.go(1);
        check.due("0 with 1", x.crossed(), 1);
        x.go(1);
        check.due("0 with 1, 0 0, 1 1, 1 0, 0 1", x.crossed(), 4);
        x.go(1);
        check.due("three the same, two and two a minute on, one two minutes on", x.crossed(), 8);
        x.link(0, 1, 2, true);
        check.due("with 2, the same and up to two minutes on", x.crossed(), 8 + 3 + 2 + 1);
        check.due("nobody", new TheyHearLate().crossed(), 0);
    }

    /** Promise 16: NEAR and LATE as they are now. */
    private static void crossedAsTheyAreNow() {
        TheyHearLate x = people(1, 1);
        Check.rule(x, 1, "t=0");
        Check.rule(x, 3, "t=4");
        x.go(9);
        check.due("not near", x.crossed(), 0);
        x.link(0, 0, 1, true);
        check.due("late 1", x.crossed(), 0);
        x.set(1, 0, 4);
        check.due("late 4", x.crossed(), 0);
        x.set(1, 0, 5);
        check.due("late 5", x.crossed(), 1);
        x.set(0, 0, 20);
        check.due("late 5 and 20", x.crossed(), 1);
        x.link(0, 0, 1, false);
        check.due("near no more", x.crossed(), 0);
    }

    /** Promise 17: the other's LATE (1, if that is 0) ahead of it. */
    private static void byItsLate() {
        int[] lates = {0, 1, 2, 19, 20};
        int[] ahead = {1, 1, 2, 19, 20};
        for (int i = 0; i < lates.length; i++) {
            TheyHearLate x = people(7, lates[i]);
            x.link(0, 0, 1, true);
            check.due("late " + lates[i], x.by(0, 1, 100), 100 - ahead[i]);
            check.due("late " + lates[i] + " in minute 199", x.by(0, 1, 199), 199 - ahead[i]);
            check.due("late " + lates[i] + ", the other way", x.by(1, 0, 100), 93);
        }
    }

    /** Promise 17: -2: that is below 0, or they are not NEAR. */
    private static void byBelow0() {
        int[] lates = {0, 1, 2, 20};
        int[] ahead = {1, 1, 2, 20};
        for (int i = 0; i < lates.length; i++) {
            TheyHearLate x = people(7, lates[i]);
            check.due("not near", x.by(0, 1, 199), -2);
            x.link(0, 0, 1, true);
            check.due("just 0", x.by(0, 1, ahead[i]), 0);
            check.due("below 0", x.by(0, 1, ahead[i] - 1), -2);
            check.due("far below 0", x.by(0, 1, 0), -2);
            x.link(0, 0, 1, false);
            check.due("not near", x.by(0, 1, ahead[i]), -2);
        }
    }

    /** Promise 17: NONE: others, like ones; a MINUTE (0 .. 199). */
    private static void byOfOthers() {
        for (int m : new int[] {-1, 200, Integer.MIN_VALUE, Integer.MAX_VALUE}) {
            world.refuses("minute " + m, -1, x -> x.by(0, 1, m));
            world.refuses("minute " + m + ", not near", -1, x -> x.by(0, 4, m));
        }
        for (int nobody : NOBODY) {
            world.refuses("nobody " + nobody, -1, x -> x.by(0, nobody, 100));
            world.refuses("nobody " + nobody, -1, x -> x.by(nobody, 0, 100));
        }
        for (int i = 0; i < 5; i++) {
            int one = i;
            world.refuses("like ones", -1, x -> x.by(one, one, 100));
            world.refuses("like ones, below 0", -1, x -> x.by(one, one, 0));
        }
        check.due("minute 0 is one", world.make().by(0, 1, 0), -2);
        check.due("minute 199 is one", world.make().by(0, 1, 199), 198);
    }

    /** Promise 18: from MINUTE 0 n MINUTES (1 .. 199). */
    private static void wouldOf1To199() {
        TheyHearLate x = people(0);
        x.beam(0, -50);
        Check.rule(x, 0, "1");
        x.go(9);
        check.due("one minute", x.would(1, 1), 49);
        check.row("one minute", x, -49);
        check.due("two", x.would(2, 1), 49 + 48);
        check.row("two", x, -48);
        check.due("198", x.would(198, 1), 49 * 50 / 2 + 148 * 149 / 2);
        check.row("198", x, 148);
        check.due("199", x.would(199, 1), 49 * 50 / 2 + 149 * 150 / 2);
        check.row("199", x, 149);
        check.due("now", x.count(1), 9);
        x.go(199);
        check.due("in minute 199", x.would(199, 1), 49 * 50 / 2 + 149 * 150 / 2);
        TheyHearLate windy = new TheyHearLate();
        windy.beam(3, 2);
        for (int seed : new int[] {1, 0, -1, Integer.MIN_VALUE, Integer.MAX_VALUE}) {
            windy.begin();
            windy.seed(seed);
            int place = windy.go(50);
            int cost = windy.cost();
            windy.begin();
            check.due("R " + seed, windy.would(50, seed), cost);
            check.row("R " + seed, windy, place);
        }
    }

    /** Promise 18: NONE: others. */
    private static void wouldOfOthers() {
        for (int n : new int[] {0, -1, 200, Integer.MIN_VALUE, Integer.MAX_VALUE}) {
            world.refuses("would(" + n + ", 1)", -1, x -> x.would(n, 1));
        }
    }

    /** Promise 18: nothing changes. */
    private static void wouldChangesNothing() {
        world.leavesAllButTheRow("would(1, 5)", x -> x.would(1, 5));
        world.leavesAllButTheRow("would(199, -5)", x -> x.would(199, -5));
        new World(check, World::begun).leavesAllButTheRow("would(199, 1)", x -> x.would(199, 1));
    }
}
