/** The bounds that Promises 34 to 38 name, each at the bound and past it. */
public final class AskedBoundsTest {
    private static final Check check = new Check("AskedBoundsTest");
    private static final int[] NOBODY = {-1, 5, 6, Integer.MIN_VALUE, Integer.MAX_VALUE};
    private static final World world = new World(check, World::five);

    public static void main(String[] args) {
        saysByNobody();
        saysByAsManyAsThereAre();
        saysByTheFirstAndTheLast();
        saysOfEqualOnesTheFewest();
        saysOfEqualOnesTheLeastRow();
        saysNever();
        saysOfOthers();
        soonByWordAndByNod();
        soonByANodThatIsNoLater();
        soonNever();
        soonOfOthers();
        knowJustInTime();
        know99AtMost();
        knowOfNoWord();
        knowIfEachSees();
        knowOfOthers();
        crierOfFewerThanTwo();
        crierOfAll();
        crierOfEqualOnesTheFirst();
        crierByNone();
        deafToOthers();
        deafOfNoneSuch();
        check.end();
    }

    /** People told as LATE and THINKS, by turns. */
    private static TheyHearLate people(int... lateAndThinks) {
        TheyHearLate x = new TheyHearLate();
        for (int i = 0; i < lateAndThinks.length; i += 2) {
            x.person(lateAndThinks[i], 0, lateAndThinks[i + 1]);
        }
        return x;
    }

    private static void near(TheyHearLate x, int... pairs) {
        for (int i = 0; i < pairs.length; i += 2) {
            x.link(0, pairs[i], pairs[i + 1], true);
        }
    }

    private static void says(TheyHearLate x, int one, int other, int minutes, long... row) {
        check.due("says(" + one + ", " + other + ")", x.says(one, other), minutes);
        check.row("says(" + one + ", " + other + ")", x, row);
    }

    /** Promise 34: LATE of each who hears, THINKS of each who passes on. */
    private static void saysByNobody() {
        int[] lates = {0, 1, 19, 20};
        for (int late : lates) {
            TheyHearLate x = people(7, 9, late, 9);
            near(x, 0, 1);
            says(x, 0, 1, late);
            says(x, 1, 0, 7);
        }
    }

    /** Promise 34: has passed on to it by others. */
    private static void saysByAsManyAsThereAre() {
        TheyHearLate x = people(20, 9, 20, 9, 20, 9, 20, 9, 20, 9, 20, 9);
        near(x, 0, 5);
        says(x, 0, 5, 20);
        near(x, 5, 1);
        says(x, 0, 1, 49, 5);
        near(x, 1, 4);
        says(x, 0, 4, 78, 5, 1);
        near(x, 4, 2);
        says(x, 0, 2, 107, 5, 1, 4);
        near(x, 2, 3);
        says(x, 0, 3, 136, 5, 1, 4, 2);
        says(x, 3, 0, 136, 2, 4, 1, 5);
        TheyHearLate quick = people(0, 0, 0, 0, 0, 0, 0, 0, 0, 0, 0, 0);
        near(quick, 0, 5, 5, 1, 1, 4, 4, 2, 2, 3);
        says(quick, 0, 3, 0, 5, 1, 4, 2);
        quick.set(5, 2, 9);
        says(quick, 0, 3, 9, 5, 1, 4, 2);
        quick.set(0, 2, 9);
        quick.set(3, 2, 9);
        says(quick, 0, 3, 9, 5, 1, 4, 2);
        quick.set(0, 0, 20);
        says(quick, 0, 3, 9, 5, 1, 4, 2);
        quick.set(3, 0, 20);
        says(quick, 0, 3, 29, 5, 1, 4, 2);
    }

    /** Promise 34: has passed on to it by others: by the first of all, by the last, by none behind some. */
    private static void saysByTheFirstAndTheLast() {
        TheyHearLate x = people(4, 1, 5, 2, 6, 3, 1, 1, 1, 1, 7, 4);
        near(x, 1, 0, 0, 2);
        says(x, 1, 2, 4 + 1 + 6, 0);
        says(x, 2, 1, 4 + 1 + 5, 0);
        near(x, 2, 5, 5, 3);
        says(x, 1, 3, 4 + 1 + 6 + 3 + 7 + 4 + 1, 0, 2, 5);
        says(x, 3, 1, 7 + 4 + 6 + 3 + 4 + 1 + 5, 5, 2, 0);
        says(x, 5, 2, 6);
        says(x, 3, 2, 7 + 4 + 6, 5);
        says(x, 0, 1, 5);
    }

    /** Promise 34: of equal ones the fewest. */
    private static void saysOfEqualOnesTheFewest() {
        TheyHearLate x = people(1, 0, 5, 0, 2, 1, 3, 3, 1, 1, 0, 0);
        near(x, 0, 1, 0, 4, 4, 1);
        says(x, 0, 1, 5);
        x.link(0, 0, 1, false);
        says(x, 0, 1, 7, 4);
        near(x, 4, 5, 5, 1);
        says(x, 0, 1, 7, 4);
        near(x, 0, 2, 2, 1);
        says(x, 0, 1, 7, 4);
        x.set(4, 2, 2);
        says(x, 0, 1, 8, 2);
        TheyHearLate y = people(0, 0, 0, 0, 0, 0, 0, 0);
        near(y, 0, 2, 2, 3, 3, 1, 0, 1);
        says(y, 0, 1, 0);
        y.link(0, 0, 1, false);
        near(y, 0, 3);
        says(y, 0, 1, 0, 3);
    }

    /** Promise 34: then the least row. */
    private static void saysOfEqualOnesTheLeastRow() {
        TheyHearLate x = people(1, 1, 1, 1, 1, 1, 1, 1, 1, 1, 1, 1);
        near(x, 0, 4, 4, 1, 0, 3, 3, 1);
        says(x, 0, 1, 3, 3);
        near(x, 0, 2, 2, 1);
        says(x, 0, 1, 3, 2);
        x.set(2, 2, 2);
        says(x, 0, 1, 3, 3);
        TheyHearLate y = people(1, 1, 1, 1, 1, 1, 1, 1, 1, 1, 1, 1);
        near(y, 0, 2, 2, 5, 5, 1, 0, 3, 3, 4, 4, 1);
        says(y, 0, 1, 5, 2, 5);
        near(y, 2, 4);
        says(y, 0, 1, 5, 2, 4);
        near(y, 3, 5);
        says(y, 1, 0, 5, 4, 2);
        y.set(2, 2, 3);
        says(y, 0, 1, 5, 3, 4);
        says(y, 1, 0, 5, 4, 3);
    }

    /** Promise 34: -2: never. */
    private static void saysNever() {
        TheyHearLate x = people(0, 0, 0, 0, 0, 0);
        x.two();
        check.due("nobody near", x.says(0, 1), -2);
        near(x, 0, 2);
        check.due("no way on", x.says(0, 1), -2);
        x.link(1, 0, 1, true);
        check.due("seeing is not hearing", x.says(0, 1), -2);
        check.row("stays", x, 0, 0, 0, 0, 0, 0);
        near(x, 2, 1);
        says(x, 0, 1, 0, 2);
        world.leaves("says(0, 4), never", y -> y.says(0, 4));
    }

    /** Promise 34: NONE: others, like ones. */
    private static void saysOfOthers() {
        for (int nobody : NOBODY) {
            world.refuses("nobody " + nobody, -1, x -> x.says(nobody, 0));
            world.refuses("nobody " + nobody, -1, x -> x.says(0, nobody));
        }
        for (int i = 0; i < 5; i++) {
            int one = i;
            world.refuses("like ones", -1, x -> x.says(one, one));
        }
        check.due("nobody at all", new TheyHearLate().says(0, 1), -1);
        check.due("one alone", people(0, 0).says(0, 0), -1);
        world.leavesAllButTheRow("says(0, 3)", x -> x.says(0, 3));
    }

    private static void soon(TheyHearLate x, int one, int other, int minutes, int nod) {
        check.due("soon(" + one + ", " + other + ")", x.soon(one, other), minutes);
        check.row("soon(" + one + ", " + other + ")", x, nod);
    }

    /** Promise 35: says(), then that one THINKS, then says() back, or at once by a nod. */
    private static void soonByWordAndByNod() {
        TheyHearLate x = people(3, 9, 5, 2, 1, 1);
        near(x, 0, 1);
        soon(x, 0, 1, 5 + 2 + 3, 0);
        soon(x, 1, 0, 3 + 9 + 5, 0);
        x.link(1, 1, 0, true);
        soon(x, 0, 1, 10, 0);
        soon(x, 1, 0, 3 + 9, 1);
        x.link(1, 0, 1, true);
        soon(x, 0, 1, 5 + 2, 1);
        TheyHearLate far = people(20, 9, 20, 9, 20, 9, 20, 9, 20, 9, 20, 9);
        near(far, 0, 1, 1, 2, 2, 3, 3, 4, 4, 5);
        soon(far, 0, 5, 136 + 9 + 136, 0);
        far.link(1, 0, 5, true);
        soon(far, 0, 5, 136 + 9, 1);
    }

    /** Promise 35: 1 by a nod (if that is no later), 0. */
    private static void soonByANodThatIsNoLater() {
        TheyHearLate x = people(0, 0, 4, 2);
        near(x, 0, 1);
        soon(x, 0, 1, 6, 0);
        x.link(1, 0, 1, true);
        soon(x, 0, 1, 6, 1);
        x.set(0, 0, 1);
        soon(x, 0, 1, 6, 1);
        x.link(1, 0, 1, false);
        soon(x, 0, 1, 7, 0);
    }

    /** Promise 35: -2: never. */
    private static void soonNever() {
        TheyHearLate x = people(0, 0, 0, 0, 0, 0);
        x.two();
        check.due("never", x.soon(0, 1), -2);
        x.link(1, 0, 1, true);
        x.link(1, 1, 0, true);
        check.due("a nod to nothing asked", x.soon(0, 1), -2);
        near(x, 0, 2);
        check.due("never", x.soon(0, 1), -2);
        check.row("stays", x, 0, 0, 0, 0, 0, 0);
        near(x, 2, 1);
        soon(x, 0, 1, 0, 1);
    }

    /** Promise 35: NONE likewise. */
    private static void soonOfOthers() {
        for (int nobody : NOBODY) {
            world.refuses("nobody " + nobody, -1, x -> x.soon(nobody, 0));
            world.refuses("nobody " + nobody, -1, x -> x.soon(0, nobody));
        }
        for (int i = 0; i < 5; i++) {
            int one = i;
            world.refuses("like ones", -1, x -> x.soon(one, one));
        }
        world.leaves("soon(0, 4), never", x -> x.soon(0, 4));
        world.leavesAllButTheRow("soon(0, 3)", x -> x.soon(0, 3));
    }

    /** Promise 36: how many words have come by then; each THINKING ahead of all but the first. */
    private static void knowJustInTime() {
        TheyHearLate x = people(3, 1, 5, 2);
        near(x, 0, 1);
        int[] comes = {5, 5 + 2 + 3, 10 + 1 + 5, 16 + 2 + 3, 21 + 1 + 5};
        for (int k = 0; k < comes.length; k++) {
            check.due("a minute ahead of word " + k, x.know(0, 1, comes[k] - 1), k);
            check.due("with word " + k, x.know(0, 1, comes[k]), k + 1);
            check.due("a minute behind word " + k, x.know(0, 1, comes[k] + 1), k + 1);
        }
        int[] back = {3, 3 + 1 + 5, 9 + 2 + 3, 14 + 1 + 5};
        for (int k = 0; k < back.length; k++) {
            check.due("a minute ahead of word " + k, x.know(1, 0, back[k] - 1), k);
            check.due("with word " + k, x.know(1, 0, back[k]), k + 1);
        }
        check.due("minute 0", x.know(0, 1, 0), 0);
        x.set(1, 0, 0);
        check.due("minute 0, at once", x.know(0, 1, 0), 1);
        check.due("at once in vain", x.know(1, 0, 0), 0);
    }

    /** Promise 36: 99 at most; in m minutes (0 .. 199). */
    private static void know99AtMost() {
        TheyHearLate x = people(1, 0, 1, 0);
        near(x, 0, 1);
        int[][] known = {{0, 0}, {1, 1}, {97, 97}, {98, 98}, {99, 99}, {100, 99}, {101, 99}, {198, 99}, {199, 99}};
        for (int[] k : known) {
            check.due("in " + k[0], x.know(0, 1, k[0]), k[1]);
        }
        x.set(0, 0, 2);
        x.set(1, 0, 2);
        check.due("in 197", x.know(0, 1, 197), 98);
        check.due("in 198", x.know(0, 1, 198), 99);
        check.due("in 199", x.know(0, 1, 199), 99);
        x.set(0, 0, 0);
        x.set(1, 0, 0);
        check.due("all in minute 0", x.know(0, 1, 0), 99);
        check.due("all in minute 0", x.know(0, 1, 199), 99);
    }

    /** Promise 36: 0, if none can come. */
    private static void knowOfNoWord() {
        TheyHearLate x = people(1, 0, 1, 0, 1, 0);
        check.due("never", x.know(0, 1, 199), 0);
        near(x, 0, 2);
        check.due("never", x.know(0, 1, 199), 0);
        x.link(1, 0, 1, true);
        check.due("one sees the other one", x.know(0, 1, 199), 0);
        x.link(1, 0, 1, false);
        x.link(1, 1, 0, true);
        check.due("the other one sees", x.know(0, 1, 199), 0);
        near(x, 2, 1);
        check.due("by another one", x.know(0, 1, 2), 1);
        check.due("ahead of it", x.know(0, 1, 1), 0);
    }

    /** Promise 36: if each SEES the other one: 99. */
    private static void knowIfEachSees() {
        TheyHearLate x = people(20, 9, 20, 9);
        near(x, 0, 1);
        x.link(1, 0, 1, true);
        check.due("one sees", x.know(0, 1, 0), 0);
        x.link(1, 1, 0, true);
        check.due("each sees", x.know(0, 1, 0), 99);
        check.due("each sees", x.know(1, 0, 199), 99);
        x.link(1, 0, 1, false);
        check.due("the other one sees", x.know(0, 1, 0), 0);
    }

    /** Promise 36: NONE: others, like ones. */
    private static void knowOfOthers() {
        for (int nobody : NOBODY) {
            world.refuses("nobody " + nobody, -1, x -> x.know(nobody, 0, 9));
            world.refuses("nobody " + nobody, -1, x -> x.know(0, nobody, 9));
        }
        for (int i = 0; i < 5; i++) {
            int one = i;
            world.refuses("like ones", -1, x -> x.know(one, one, 9));
        }
        for (int m : new int[] {-1, 200, Integer.MIN_VALUE, Integer.MAX_VALUE}) {
            world.refuses("minutes " + m, -1, x -> x.know(0, 1, m));
            world.refuses("minutes " + m + ", none can come", -1, x -> x.know(0, 4, m));
        }
        World seeing = new World(check, () -> {
            TheyHearLate x = World.five();
            x.link(1, 1, 0, true);
            return x;
        });
        seeing.refuses("minutes 200, each sees", -1, x -> x.know(0, 1, 200));
        seeing.refuses("minutes -1, each sees", -1, x -> x.know(0, 1, -1));
        world.leaves("know(0, 1, 199)", x -> x.know(0, 1, 199));
    }

    /** Promise 37: NONE: fewer than two. */
    private static void crierOfFewerThanTwo() {
        new World(check, TheyHearLate::new).refuses("crier() of nobody", -1, TheyHearLate::crier);
        new World(check, () -> people(3, 1)).refuses("crier() of one", -1, TheyHearLate::crier);
        TheyHearLate x = new TheyHearLate();
        x.two();
        check.due("nobody", x.crier(), -1);
        x.person(0, 0, 0);
        check.due("one", x.crier(), -1);
        check.row("stays", x, 0, 0, 0, 0, 0, 0);
        x.person(0, 0, 0);
        check.due("two far from one another", x.crier(), -2);
        check.row("stays", x, 0, 0, 0, 0, 0, 0);
        near(x, 0, 1);
        check.due("two", x.crier(), 0);
        check.row("two", x, 0);
    }

    /** Promise 37: by whom all others have heard a thing soonest (the last of them). */
    private static void crierOfAll() {
        TheyHearLate x = people(20, 9, 20, 9, 20, 9, 20, 9, 20, 9, 20, 9);
        near(x, 0, 1, 1, 2, 2, 3, 3, 4, 4, 5);
        check.due("in the middle", x.crier(), 2);
        check.row("three on", x, 78);
        near(x, 0, 5);
        check.due("in a ring", x.crier(), 0);
        check.row("three on", x, 78);
        near(x, 5, 1, 5, 2, 5, 3);
        check.due("near all", x.crier(), 5);
        check.row("near all", x, 20);
    }

    /** Promise 37: of equal ones the first. */
    private static void crierOfEqualOnesTheFirst() {
        TheyHearLate x = people(5, 0, 5, 0, 5, 0);
        near(x, 1, 2, 0, 2, 0, 1);
        check.due("all alike", x.crier(), 0);
        check.row("all alike", x, 5);
        x.set(1, 0, 6);
        check.due("1 is heard of by none later than 5", x.crier(), 1);
        check.row("1 is heard of by none later than 5", x, 5);
        x.set(2, 0, 6);
        check.due("0: 6, 1: 6, 2: 6", x.crier(), 0);
        check.row("0: 6, 1: 6, 2: 6", x, 6);
    }

    /** Promise 37: -2: by none can all hear. */
    private static void crierByNone() {
        TheyHearLate x = people(0, 0, 0, 0, 0, 0, 0, 0);
        near(x, 0, 1, 2, 3);
        check.due("two and two", x.crier(), -2);
        near(x, 0, 2);
        check.due("all", x.crier(), 0);
        x.person(0, 0, 0);
        check.due("one alone", x.crier(), -2);
        world.leaves("crier(), by none", TheyHearLate::crier);
        World all = new World(check, () -> {
            TheyHearLate y = World.five();
            y.link(0, 0, 4, true);
            return y;
        });
        all.leavesAllButTheRow("crier()", TheyHearLate::crier);
    }

    /** Promise 38: others (bits) from whom nothing said can ever come to one. */
    private static void deafToOthers() {
        check.due("one alone", people(0, 0).deaf(0), 0);
        TheyHearLate x = people(0, 0, 0, 0, 0, 0, 0, 0, 0, 0, 0, 0);
        for (int i = 0; i < 6; i++) {
            check.due("to all others", x.deaf(i), 63 - (1 << i));
        }
        near(x, 0, 5);
        check.due("to the four between", x.deaf(0), 30);
        check.due("to the four between", x.deaf(5), 30);
        check.due("to all others", x.deaf(1), 61);
        near(x, 5, 1, 1, 4, 4, 2, 2, 3);
        for (int i = 0; i < 6; i++) {
            check.due("to nobody", x.deaf(i), 0);
        }
        x.link(0, 4, 1, false);
        check.due("to 2, 3, 4", x.deaf(0), 28);
        check.due("to 0, 1, 5", x.deaf(3), 35);
    }

    /** Promise 38: NONE: none such. */
    private static void deafOfNoneSuch() {
        for (int nobody : NOBODY) {
            world.refuses("deaf(" + nobody + ")", -1, x -> x.deaf(nobody));
        }
        check.due("nobody at all", new TheyHearLate().deaf(0), -1);
        world.leaves("deaf(4)", x -> x.deaf(4));
    }
}
