/** The bounds that Promises 43 to 47 name, each at the bound and past it. */
public final class KeptBoundsTest {
    private static final Check check = new Check("KeptBoundsTest");
    private static final int[] FAR = {Integer.MIN_VALUE, Integer.MAX_VALUE};
    private static final World world = new World(check, World::five);

    public static void main(String[] args) {
        seedOfAnyInt();
        keepUnder0To2();
        keepOfOthers();
        againInFirstAndLastMinute();
        againOfAllThatWasDone();
        againOfAllThatIsKept();
        againOfNothingKept();
        againWithOneToldSince();
        againOfOthers();
        countOfEach();
        countOfAnother();
        rowOfNumbersTold();
        rowOfNoneSuch();
        check.end();
    }

    /** Promise 43: R becomes v: what it was. */
    private static void seedOfAnyInt() {
        TheyHearLate x = new TheyHearLate();
        check.due("at first", x.seed(Integer.MAX_VALUE), 1);
        check.due("the greatest", x.seed(Integer.MIN_VALUE), Integer.MAX_VALUE);
        check.due("the least", x.seed(0), Integer.MIN_VALUE);
        check.due("0", x.seed(-1), 0);
        check.due("-1", x.seed(1), -1);
    }

    private static TheyHearLate walking() {
        TheyHearLate x = new TheyHearLate();
        x.person(1, 0, 0);
        Check.rule(x, 0, "1");
        return x;
    }

    /** Promise 44: under a number 0 .. 2: true. */
    private static void keepUnder0To2() {
        TheyHearLate x = walking();
        for (int i = 0; i < 3; i++) {
            x.go(1);
            check.due("keep(" + i + ")", x.keep(i), true);
        }
        x.go(5);
        for (int i = 2; i >= 0; i--) {
            check.due("again(" + i + ")", x.again(i), true);
            check.due("now", x.count(1), i + 1);
            check.due("place", x.place(i + 1), i + 1);
        }
        check.due("keep over it", x.keep(1), true);
        x.again(2);
        check.due("now", x.count(1), 3);
        x.again(1);
        check.due("now", x.count(1), 1);
    }

    /** Promise 44: refused: others. */
    private static void keepOfOthers() {
        world.refusesTruth("keep(-1)", x -> x.keep(-1));
        world.refusesTruth("keep(3)", x -> x.keep(3));
        for (int far : FAR) {
            world.refusesTruth("keep far off", x -> x.keep(far));
        }
        World kept = new World(check, () -> {
            TheyHearLate x = World.five();
            x.keep(1);
            return x;
        });
        kept.leaves("keep(1) of the same again", x -> x.keep(1) ? 1 : 0);
    }

    private static void againInFirstAndLastMinute() {
        TheyHearLate x = walking();
        x.beam(0, 5);
        x.keep(0);
        x.go(199);
        x.keep(1);
        check.due("as minute 0 begins", x.again(0), true);
        check.due("now", x.count(1), 0);
        check.due("place", x.place(0), 5);
        check.isThrown("minute 1", () -> x.place(1));
        check.isThrown("minute 0 did not go by", () -> x.was(0, 0, 0));
        check.due("in minute 199", x.again(1), true);
        check.due("now", x.count(1), 199);
        check.due("place", x.place(199), 204);
        check.due("did", x.was(0, 198, 0), 1);
        check.due("no further", x.go(1), 204);
    }

    private static long[] allThatWas(TheyHearLate x) {
        long[] all = new long[4 * 3 * 6];
        for (int i = 0; i < all.length; i++) {
            all[i] = x.was(i / 24, i / 4 % 6, i % 4);
        }
        return all;
    }

    private static void sameAll(String call, long[] got, long[] want) {
        for (int i = 0; i < want.length; i++) {
            check.due(call + ", was(" + i / 24 + ", " + i / 4 % 6 + ", " + i % 4 + ")", got[i], want[i]);
        }
    }

    /** Promises 44, 45: all MINUTES that went by: what one did, said, HEARD, saw in them. */
    private static void againOfAllThatWasDone() {
        TheyHearLate x = world.make();
        long[] first = allThatWas(x);
        x.keep(1);
        x.begin();
        x.beam(0, -70);
        Check.tell(x, "");
        for (int i = 0; i < 12; i++) {
            Check.rule(x, i, String.valueOf(i - 20));
        }
        x.go(9);
        long[] second = allThatWas(x);
        for (int what = 0; what < 4; what++) {
            int unlike = 0;
            for (int i = what; i < first.length; i += 4) {
                unlike += first[i] != second[i] ? 1 : 0;
            }
            check.due("unlike ones of what " + what, unlike > 0, true);
        }
        x.keep(2);
        x.again(1);
        sameAll("again(1)", allThatWas(x), first);
        x.again(2);
        sameAll("again(2)", allThatWas(x), second);
    }

    /** Promises 44, 45: all MINUTES that went by, START and R; they are as they were kept. */
    private static void againOfAllThatIsKept() {
        TheyHearLate x = world.make();
        check.due("kept under 0", x.again(0), true);
        check.due("now", x.count(1), 4);
        check.due("start", x.place(0), 40);
        check.due("due stays", x.count(3), -6);
        int first = x.seed(9);
        check.due("kept still", x.again(0), true);
        check.due("R", x.seed(9), first);
        x.begin();
        check.due("start behind begin", x.place(0), 40);
        check.due("start", x.beam(0, 3), 40);
        check.due("kept under 2", x.again(2), true);
        check.due("now", x.count(1), 6);
        check.due("start", x.place(0), 15);
        x.begin();
        check.due("start", x.beam(0, 3), 15);
        x.again(2);
        x.set(0, 0, 9);
        x.beam(1, 8);
        x.beam(2, 1);
        x.fog(0, 1, 1, 1);
        x.weight(0, 0, 5);
        x.link(0, 0, 1, false);
        x.pull(0, 1, 1, 2);
        x.again(2);
        check.due("late stays as told since", x.set(0, 0, 1), 9);
        check.due("due stays as told since", x.count(3), 8);
        check.due("down stays as told since", x.beam(2, 0), 1);
        check.due("weight stays as told since", x.weight(0, 0, 1), 5);
        check.due("near stays as told since", x.by(0, 1, 9), -2);
        check.due("signs of the text stay", x.count(5), 3);
        check.row("the row stays", x, 1, 0, 0);
    }

    /** Promise 45: refused: nothing kept. */
    private static void againOfNothingKept() {
        world.refusesTruth("again(1)", x -> x.again(1));
        TheyHearLate x = new TheyHearLate();
        for (int i = 0; i < 3; i++) {
            check.due("nothing kept", x.again(i), false);
        }
        x.keep(1);
        check.due("nothing kept", x.again(0), false);
        check.due("kept", x.again(1), true);
        check.due("nothing kept", x.again(2), false);
    }

    /** Promise 45: refused: one of PEOPLE was told since. */
    private static void againWithOneToldSince() {
        World more = new World(check, World::six);
        for (int i = 0; i < 3; i++) {
            int kept = i;
            more.refusesTruth("again(" + kept + "), one more", x -> x.again(kept));
        }
        TheyHearLate x = new TheyHearLate();
        x.keep(0);
        check.due("of nobody", x.again(0), true);
        for (int i = 0; i < 6; i++) {
            x.person(0, 0, 0);
            check.due("one more", x.again(i % 3), false);
            check.due("keep", x.keep(i % 3), true);
            check.due("kept since", x.again(i % 3), true);
        }
        check.due("a seventh is refused", x.person(0, 0, 0), -1);
        check.due("none was told", x.again(2), true);
        check.due("one was told since", x.again(1), false);
        check.due("two were told since", x.again(0), false);
    }

    /** Promise 45: another number. */
    private static void againOfOthers() {
        world.refusesTruth("again(-1)", x -> x.again(-1));
        world.refusesTruth("again(3)", x -> x.again(3));
        for (int far : FAR) {
            world.refusesTruth("again far off", x -> x.again(far));
        }
    }

    /** Promise 46: what 0 .. 5. */
    private static void countOfEach() {
        TheyHearLate x = world.make();
        int[] want = {5, 7, 1 + 2 + 4 + 8 + 32 + 256 + 1024 + 2048, -6, 3, 3};
        for (int what = 0; what <= 5; what++) {
            int w = what;
            check.due("count(" + what + ")", x.count(what), want[what]);
            world.leaves("count(" + what + ")", y -> y.count(w));
        }
        TheyHearLate full = new TheyHearLate();
        for (int i = 0; i < 12; i++) {
            Check.rule(full, i, "1");
            check.due("rules told", full.count(2), (2 << i) - 1);
        }
        for (int i = 1; i <= 15; i++) {
            full.sign(0);
            check.due("signs", full.count(5), 4 * i);
        }
        full.beam(1, 99);
        check.due("due", full.count(3), 99);
        full.beam(1, -99);
        check.due("due", full.count(3), -99);
        full.go(199);
        check.due("now", full.count(1), 199);
    }

    /** Promise 46: NONE for another what. */
    private static void countOfAnother() {
        for (int what : new int[] {-1, 6, 7, Integer.MIN_VALUE, Integer.MAX_VALUE}) {
            world.refuses("count(" + what + ")", -1, x -> x.count(what));
        }
    }

    /** Promise 47: number i of the ROW. */
    private static void rowOfNumbersTold() {
        TheyHearLate x = world.make();
        check.due("row(0)", x.row(0), 10);
        check.due("row(1)", x.row(1), 2);
        check.due("row(2)", x.row(2), -1);
        check.isThrown("row(3)", () -> x.row(3));
        check.due("row(0) still", x.row(0), 10);
        for (int i = 0; i < 3; i++) {
            int at = i;
            world.leaves("row(" + i + ")", y -> y.row(at));
        }
        x.two();
        for (int i = 0; i < 6; i++) {
            check.due("row(" + i + ")", x.row(i) >= 0, true);
        }
        check.isThrown("row(6)", () -> x.row(6));
        x.beam(1, -99);
        x.beam(2, 0);
        x.beam(3, 10);
        x.steer(4, 50, 6, 1);
        check.due("a number beyond ints", x.row(0), 10000000000L * 153 * 6);
    }

    /** Promise 47: NoSuchElementException: none such. */
    private static void rowOfNoneSuch() {
        for (int i : new int[] {-1, 3, 4, 5, 6, Integer.MIN_VALUE, Integer.MAX_VALUE}) {
            world.throwsNoSuch("row(" + i + ") of 3", x -> x.row(i));
        }
        check.isThrown("at first", () -> new TheyHearLate().row(0));
        check.isThrown("at first", () -> new TheyHearLate().row(-1));
        TheyHearLate x = walking();
        x.person(1, 0, 0);
        x.link(0, 0, 1, true);
        x.cost();
        x.says(0, 1);
        check.isThrown("none told", () -> x.row(0));
        x.would(1, 1);
        check.due("one told", x.row(0), 1);
        check.isThrown("one told", () -> x.row(1));
    }
}
