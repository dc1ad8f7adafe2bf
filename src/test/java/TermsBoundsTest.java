import java.util.HashSet;
import java.util.Set;

/** The bounds that Terms 1 and 2 name, each at the bound and past it: people, minutes, the beam, and what is refused. */
public final class TermsBoundsTest {
    private static final Check check = new Check("TermsBoundsTest");

    public static void main(String[] args) {
        peopleAreSixAtMost();
        lateIs0To20();
        sightIs0To20();
        thinksIs0To9();
        atFirstNobodyIsNear();
        atFirstNobodySees();
        nowIsAtFirst0();
        minutesAreTo199();
        placeIsTo999();
        placeIsPutToItsBoundsWithTheWind();
        startIsAtFirst0();
        dueIsTo99();
        windIsTenCasesAtMost();
        drawsWrapAround();
        drawsAreWithoutSign();
        noDrawWithoutWind();
        doIsPutTo9();
        sayIsPutTo99();
        allIsOfWhatWasAsItBegan();
        heardIsOfAllOthersNear();
        costIsASize();
        rowIsToldLast();
        rowStaysBehindWhatTellsNone();
        fractionsAreInLowestTerms();
        textIsEmptiedByWhatReadsIt();
        lastOfAllCalls();
        check.end();
    }

    /** PEOPLE 0 .. (at most 6). */
    private static void peopleAreSixAtMost() {
        TheyHearLate x = new TheyHearLate();
        for (int i = 0; i < 6; i++) {
            check.due("number of one more", x.person(0, 0, 0), i);
        }
        check.due("a seventh", x.person(0, 0, 0), -1);
        check.due("people", x.count(0), 6);
        new World(check, World::six).refuses("a seventh", -1, y -> y.person(0, 0, 0));
    }

    /** LATE 0 .. 20. */
    private static void lateIs0To20() {
        TheyHearLate x = new TheyHearLate();
        check.due("late -1", x.person(-1, 0, 0), -1);
        check.due("late 21", x.person(21, 0, 0), -1);
        check.due("late 0", x.person(0, 0, 0), 0);
        check.due("late 20", x.person(20, 0, 0), 1);
        check.due("late becomes -1", x.set(0, 0, -1), -1);
        check.due("late becomes 21", x.set(0, 0, 21), -1);
        check.due("late becomes 20", x.set(0, 0, 20), 0);
        check.due("late becomes 0", x.set(1, 0, 0), 20);
        check.due("late became 20", x.set(0, 0, 1), 20);
        check.due("late became 0", x.set(1, 0, 1), 0);
    }

    /** SIGHT 0 .. 20. */
    private static void sightIs0To20() {
        TheyHearLate x = new TheyHearLate();
        check.due("sight -1", x.person(0, -1, 0), -1);
        check.due("sight 21", x.person(0, 21, 0), -1);
        check.due("sight 0", x.person(0, 0, 0), 0);
        check.due("sight 20", x.person(0, 20, 0), 1);
        check.due("sight becomes -1", x.set(0, 1, -1), -1);
        check.due("sight becomes 21", x.set(0, 1, 21), -1);
        check.due("sight becomes 20", x.set(0, 1, 20), 0);
        check.due("sight becomes 0", x.set(1, 1, 0), 20);
        check.due("sight became 20", x.set(0, 1, 1), 20);
        check.due("sight became 0", x.set(1, 1, 1), 0);
    }

    /** THINKS 0 .. 9 minutes. */
    private static void thinksIs0To9() {
        TheyHearLate x = new TheyHearLate();
        check.due("thinks -1", x.person(0, 0, -1), -1);
        check.due("thinks 10", x.person(0, 0, 10), -1);
        check.due("thinks 0", x.person(0, 0, 0), 0);
        check.due("thinks 9", x.person(0, 0, 9), 1);
        check.due("thinks becomes -1", x.set(0, 2, -1), -1);
        check.due("thinks becomes 10", x.set(0, 2, 10), -1);
        check.due("thinks becomes 9", x.set(0, 2, 9), 0);
        check.due("thinks becomes 0", x.set(1, 2, 0), 9);
        check.due("thinks became 9", x.set(0, 2, 1), 9);
        check.due("thinks became 0", x.set(1, 2, 1), 0);
    }

    private static TheyHearLate people(int n) {
        TheyHearLate x = new TheyHearLate();
        for (int i = 0; i < n; i++) {
            x.person(1, 0, 0);
        }
        return x;
    }

    /** Two are NEAR or not (both ways; at first not). */
    private static void atFirstNobodyIsNear() {
        TheyHearLate x = people(6);
        for (int i = 0; i < 6; i++) {
            for (int j = 0; j < 6; j++) {
                check.due("at first not near", x.by(i, j, 100), i == j ? -1 : -2);
            }
        }
        x.link(0, 5, 0, true);
        for (int i = 0; i < 6; i++) {
            for (int j = 0; j < 6; j++) {
                boolean near = i + j == 5 && i * j == 0;
                check.due("near both ways, nobody else", x.by(i, j, 100), near ? 99 : i == j ? -1 : -2);
            }
        }
    }

    /** One SEES another one or not (at first not). */
    private static void atFirstNobodySees() {
        TheyHearLate x = people(6);
        for (int i = 0; i < 6; i++) {
            for (int j = 0; j < i; j++) {
                x.link(0, i, j, true);
            }
        }
        for (int i = 0; i < 6; i++) {
            for (int j = 0; j < 6; j++) {
                check.due("at first sees not", x.soon(i, j), i == j ? -1 : 2);
            }
        }
        x.link(1, 5, 0, true);
        for (int i = 0; i < 6; i++) {
            for (int j = 0; j < 6; j++) {
                boolean sees = i == 5 && j == 0;
                check.due("sees one way, nobody else", x.soon(i, j), sees ? 1 : i == j ? -1 : 2);
            }
        }
    }

    /** NOW (at first 0). */
    private static void nowIsAtFirst0() {
        TheyHearLate x = people(1);
        Check.rule(x, 1, "t");
        check.due("now", x.count(1), 0);
        check.due("t", x.does(0, 1), 0);
        check.isThrown("a minute that went by", () -> x.was(0, 0, 0));
    }

    /** MINUTES 0 .. 199. */
    private static void minutesAreTo199() {
        TheyHearLate x = people(2);
        x.link(0, 0, 1, true);
        Check.rule(x, 1, "t-100");
        x.go(198);
        check.due("minute 198", x.count(1), 198);
        check.due("t", x.does(0, 1), 98);
        x.go(1);
        check.due("minute 199", x.count(1), 199);
        check.due("t", x.does(0, 1), 99);
        x.go(1);
        check.due("no minute 200", x.count(1), 199);
        check.due("t", x.does(0, 1), 99);
        check.due("minute 198 went by", x.was(0, 198, 1), 98);
        check.isThrown("minute 199 never goes by", () -> x.was(0, 199, 1));
        check.due("to hear in 199", x.by(0, 1, 199), 198);
        check.due("to hear in 200", x.by(0, 1, 200), -1);
        check.due("as 199 begins", x.place(199), 0);
        check.isThrown("as 200 begins", () -> x.place(200));
    }

    private static int placeBehind(int start, String... does) {
        TheyHearLate x = people(does.length);
        x.beam(0, start);
        for (int i = 0; i < does.length; i++) {
            Check.rule(x, 2 * i, does[i]);
        }
        int place = x.go(1);
        check.due("as the minute begins", x.place(1), place);
        return place;
    }

    /** PLACE -999 .. 999; all that is done, put to its bounds. */
    private static void placeIsTo999() {
        check.due("989 and 9", placeBehind(989, "9"), 998);
        check.due("990 and 9", placeBehind(990, "9"), 999);
        check.due("991 and 9", placeBehind(991, "9"), 999);
        check.due("999 and 54", placeBehind(999, "9", "9", "9", "9", "9", "9"), 999);
        check.due("-989 and -9", placeBehind(-989, "-9"), -998);
        check.due("-990 and -9", placeBehind(-990, "-9"), -999);
        check.due("-991 and -9", placeBehind(-991, "-9"), -999);
        check.due("-999 and -54", placeBehind(-999, "-9", "-9", "-9", "-9", "-9", "-9"), -999);
        check.due("999, 9 and -9: put once for all", placeBehind(999, "9", "-9"), 999);
        check.due("-999, -9 and 9: put once for all", placeBehind(-999, "-9", "9"), -999);
        TheyHearLate x = people(1);
        x.beam(0, 999);
        Check.rule(x, 0, "9-18*(t=3)");
        x.go(4);
        check.due("what is beyond the bound is lost", x.place(4), 990);
    }

    /** PLACE and all that is done, and the WIND; put to its bounds. */
    private static void placeIsPutToItsBoundsWithTheWind() {
        TheyHearLate x = people(1);
        x.beam(3, 10);
        x.beam(0, 997);
        check.due("997 and wind", x.go(1), 998);
        check.due("998 and wind", x.go(1), 999);
        check.due("999 and wind", x.go(1), 999);
        x.begin();
        x.beam(0, 999);
        Check.rule(x, 0, "-1");
        check.due("999, -1 and wind", x.go(1), 999);
        x.beam(3, 0);
        x.beam(2, 10);
        x.begin();
        Check.rule(x, 0, "1");
        check.due("999, 1 and wind down", x.go(1), 999);
        x.begin();
        x.beam(0, -998);
        Check.rule(x, 0, "");
        check.due("-998 and wind", x.go(1), -999);
        check.due("-999 and wind", x.go(1), -999);
        Check.rule(x, 0, "1");
        check.due("-999, 1 and wind", x.go(1), -999);
    }

    /** As MINUTE 0 begins: START, at first 0. */
    private static void startIsAtFirst0() {
        TheyHearLate x = new TheyHearLate();
        check.due("place", x.place(0), 0);
        check.due("start", x.beam(0, 999), 0);
        check.due("place is start", x.place(0), 999);
        check.due("start", x.beam(0, 1000), -1);
        check.due("start", x.beam(0, -999), 999);
        check.due("place is start", x.place(0), -999);
        check.due("start", x.beam(0, -1000), -1);
        check.due("start stays", x.beam(0, 0), -999);
    }

    /** DUE -99 .. 99 (at first 0). */
    private static void dueIsTo99() {
        TheyHearLate x = people(1);
        Check.rule(x, 1, "y");
        check.due("due", x.count(3), 0);
        check.due("y", x.does(0, 1), 0);
        check.due("due", x.beam(1, 99), 0);
        check.due("y", x.does(0, 1), 99);
        check.due("due 100", x.beam(1, 100), -1);
        check.due("due", x.beam(1, -99), 99);
        check.due("y", x.does(0, 1), -99);
        check.due("due -100", x.beam(1, -100), -1);
        check.due("due stays", x.count(3), -99);
    }

    /** WIND: DOWN, UP: 0 .. 10 cases of ten (together 10 at most; at first 0). */
    private static void windIsTenCasesAtMost() {
        TheyHearLate x = new TheyHearLate();
        check.due("down", x.beam(2, 0), 0);
        check.due("up", x.beam(3, 0), 0);
        for (int down = 0; down <= 10; down++) {
            x.beam(3, 0);
            check.due("down", x.beam(2, down) >= 0, true);
            check.due("together 11", x.beam(3, 11 - down), -1);
            check.due("together 10", x.beam(3, 10 - down), 0);
            check.due("together 11", x.beam(2, down + 1), -1);
            check.due("up stays", x.beam(3, 0), 10 - down);
            check.due("down stays", x.beam(2, down), down);
        }
        check.due("down -1", x.beam(2, -1), -1);
        check.due("down 11", x.beam(2, 11), -1);
        x.beam(2, 0);
        check.due("up -1", x.beam(3, -1), -1);
        check.due("up 11", x.beam(3, 11), -1);
        check.due("up 10", x.beam(3, 10), 0);
        check.due("up stays", x.beam(3, 0), 10);
    }

    private static int drawnBehind(int r) {
        long wide = r * 1103515245L + 12345;
        return (int) (wide % (1L << 32));
    }

    /** R = R times 1103515245 + 12345 (as ints; R at first 1). */
    private static void drawsWrapAround() {
        int[] seeds = {1, 0, -1, 2, Integer.MAX_VALUE, Integer.MIN_VALUE, 1 << 30};
        int[] behind = {1103527590, 12345, -1103502900, -2087924461, 1043980748, -2147471303, 1073754169};
        for (int i = 0; i < seeds.length; i++) {
            TheyHearLate x = new TheyHearLate();
            check.due("at first", x.seed(seeds[i]), 1);
            x.beam(2, 1);
            x.go(1);
            check.due("R behind " + seeds[i], x.seed(0), behind[i]);
            check.due("R behind " + seeds[i] + " as reckoned below", drawnBehind(seeds[i]), behind[i]);
        }
    }

    /** (R without sign, by 65536) % n; below DOWN: 1 less; of 10 less UP or more: 1 more. */
    private static void drawsAreWithoutSign() {
        Set<Integer> seen = new HashSet<>();
        for (int seed = -60; seed < 60; seed++) {
            int r = drawnBehind(seed);
            int drawn = (int) ((r & 0xffffffffL) / 65536 % 10);
            seen.add(r < 0 ? drawn : drawn + 10);
            check.due("down " + drawn, windOf(seed, drawn, 0), 0);
            check.due("down " + (drawn + 1), windOf(seed, drawn + 1, 0), -1);
            check.due("up " + (9 - drawn), windOf(seed, 0, 9 - drawn), 0);
            check.due("up " + (10 - drawn), windOf(seed, 0, 10 - drawn), 1);
            check.due("both of them on either side", windOf(seed, drawn, 9 - drawn), 0);
            check.due("down, and up", windOf(seed, drawn + 1, 9 - drawn), -1);
            check.due("up, and down", windOf(seed, drawn, 10 - drawn), 1);
        }
        check.due("all draws, of R below 0 and above", seen.size(), 20);
    }

    private static int windOf(int seed, int down, int up) {
        TheyHearLate x = new TheyHearLate();
        x.beam(2, down);
        x.beam(3, up);
        x.seed(seed);
        return x.go(1);
    }

    /** If DOWN or UP is above 0 a DRAW. */
    private static void noDrawWithoutWind() {
        int[][] winds = {{0, 0, 1}, {1, 0, 1103527590}, {0, 1, 1103527590}, {1, 1, 1103527590}};
        for (int[] wind : winds) {
            TheyHearLate x = new TheyHearLate();
            x.beam(2, wind[0]);
            x.beam(3, wind[1]);
            x.go(1);
            check.due("R behind a minute of wind " + wind[0] + ", " + wind[1], x.seed(1), wind[2]);
        }
        TheyHearLate x = new TheyHearLate();
        x.beam(2, 1);
        x.go(199);
        int r = x.seed(5);
        x.seed(r);
        x.go(1);
        check.due("no draw in a minute that does not go by", x.seed(1), r);
    }

    /** Each one's DO by the RULE (without it 0), put to -9 .. 9. */
    private static void doIsPutTo9() {
        String[] texts = {"", "8", "9", "10", "999", "-8", "-9", "-10", "-999*9"};
        int[] done = {0, 8, 9, 9, 9, -8, -9, -9, -9};
        for (int i = 0; i < texts.length; i++) {
            TheyHearLate x = people(1);
            Check.rule(x, 0, texts[i]);
            check.due("would do " + texts[i], x.does(0, 0), done[i]);
            check.due("place behind " + texts[i], x.go(1), done[i]);
            check.due("did " + texts[i], x.was(0, 0, 0), done[i]);
        }
    }

    /** SAY (without it 0), put to -99 .. 99. */
    private static void sayIsPutTo99() {
        String[] texts = {"", "98", "99", "100", "999*9", "-98", "-99", "-100", "-999"};
        int[] said = {0, 98, 99, 99, 99, -98, -99, -99, -99};
        for (int i = 0; i < texts.length; i++) {
            TheyHearLate x = people(2);
            x.link(0, 0, 1, true);
            Check.rule(x, 1, texts[i]);
            check.due("would say " + texts[i], x.does(0, 1), said[i]);
            x.go(2);
            check.due("said " + texts[i], x.was(0, 0, 1), said[i]);
            check.due("heard " + texts[i], x.was(1, 1, 2), said[i]);
        }
    }

    /** All of what was as it began. */
    private static void allIsOfWhatWasAsItBegan() {
        TheyHearLate x = people(3);
        x.set(0, 0, 0);
        x.set(2, 0, 0);
        x.link(0, 0, 1, true);
        x.link(0, 1, 2, true);
        Check.rule(x, 0, "x");
        Check.rule(x, 2, "(t=0)*5");
        Check.rule(x, 3, "(t=0)*7");
        Check.rule(x, 4, "x");
        x.go(2);
        check.due("the one ahead saw no more", x.was(0, 0, 0), 0);
        check.due("the one behind saw no more", x.was(2, 0, 0), 0);
        check.due("the one ahead heard nothing", x.was(0, 0, 2), 0);
        check.due("the one behind heard nothing", x.was(2, 0, 2), 0);
        check.due("the one ahead, a minute on", x.was(0, 1, 0), 5);
        check.due("the one behind, a minute on", x.was(2, 1, 0), 5);
        check.due("the one ahead heard it, a minute on", x.was(0, 1, 2), 7);
        check.due("the one behind heard it, a minute on", x.was(2, 1, 2), 7);
    }

    /** HEARD by one in a MINUTE: the sum of what all others NEAR to one said. */
    private static void heardIsOfAllOthersNear() {
        TheyHearLate x = people(6);
        for (int i = 0; i < 6; i++) {
            Check.rule(x, 2 * i + 1, "99");
        }
        x.go(2);
        check.due("nobody near: not its own words either", x.was(0, 1, 2), 0);
        for (int i = 1; i < 6; i++) {
            x.link(0, 0, i, true);
            x.go(1);
            check.due(i + " near", x.was(0, i + 1, 2), 99 * i);
            check.due("one near", x.was(i, i + 1, 2), 99);
        }
        for (int i = 0; i < 6; i++) {
            Check.rule(x, 2 * i + 1, "-99");
        }
        x.go(2);
        check.due("not put to -99 .. 99", x.was(0, 8, 2), -495);
    }

    /** COST of a MINUTE: the size of PLACE at its end less DUE. */
    private static void costIsASize() {
        TheyHearLate x = people(1);
        x.beam(0, 5);
        Check.rule(x, 0, "-9*(t=1)");
        x.go(1);
        check.due("5 at its end", x.cost(), 5);
        x.go(1);
        check.due("-4 at its end", x.cost(), 9);
        x.beam(1, 99);
        check.due("94 and 103", x.cost(), 197);
        x.beam(1, -99);
        check.due("104 and 95", x.cost(), 199);
    }

    /** ROW: numbers told last by a call that says so. */
    private static void rowIsToldLast() {
        TheyHearLate x = people(2);
        check.row("at first", x);
        x.two();
        check.row("six", x, 0, 0, 0, 0, 0, 0);
        x.cost();
        check.row("two, none left of six", x, 0, 0);
        x.would(1, 1);
        check.row("one, none left of two", x, 0);
        x.link(0, 0, 1, true);
        x.says(0, 1);
        check.row("none, none left of one", x);
        x.pull(0, 10, 5, 2);
        check.row("three", x, 5, 0, 1);
    }

    private static void rowStaysBehindWhatTellsNone() {
        TheyHearLate x = World.five();
        x.edge(1);
        x.crossed();
        x.know(0, 1, 9);
        x.deaf(0);
        x.warn(0, 1, 99, 9, 9);
        x.sure(0, 1, 50);
        x.by(0, 1, 9);
        x.seed(1);
        x.keep(1);
        x.again(1);
        x.begin();
        x.go(1);
        x.set(0, 0, 1);
        x.sheet(2, 2, 1, 1);
        x.person(0, 0, 0);
        x.rule(0);
        x.pays();
        x.count(0);
        x.weight(0, 0, 1);
        check.row("told by pull still", x, 10, 2, -1);
    }

    /** Fractions are told in lowest terms, upper and lower number (0 by 1). */
    private static void fractionsAreInLowestTerms() {
        TheyHearLate x = people(2);
        x.link(0, 0, 1, true);
        x.fog(0, 4, 0, 0);
        x.fog(1, 5, 0, 0);
        check.due("none of a hundred", x.chance(0, 1, 1), 0);
        check.row("0 by 1", x, 0, 1);
        x.chance(0, 1, 2);
        check.row("20 of a hundred", x, 1, 5);
        x.chance(0, 1, 5);
        check.row("70 of a hundred", x, 7, 10);
        x.chance(0, 1, 8);
        check.row("a hundred of a hundred", x, 1, 1);
        x.fog(0, 3, 0, 0);
        x.fog(1, 7, 0, 0);
        x.chance(0, 1, 2);
        check.row("21 of a hundred", x, 21, 100);
        x.blind(4, 50, 6, 4);
        check.row("no wind: 0 by 1", x, 0, 1);
        x.beam(2, 1);
        x.blind(1, 1, 1, 1);
        check.row("20 less 10 of a hundred", x, 1, 10);
        x.beam(2, 5);
        x.blind(1, 3, 1, 1);
        check.row("100 less 150 of a hundred", x, -1, 2);
    }

    /** Change nothing but THE TEXT, which a call that reads it empties. */
    private static void textIsEmptiedByWhatReadsIt() {
        World world = new World(check, World::five);
        world.refusesWithTheText("no such rule", -100, x -> x.rule(12));
        world.refusesWithTheText("no such rule", -100, x -> x.rule(-1));
        world.refusesWithTheText("a pay of x", -1, TheyHearLate::pays);
        World broken = new World(check, () -> {
            TheyHearLate x = World.five();
            x.sign('+' << 24 | '+' << 16);
            return x;
        });
        broken.refusesWithTheText("a rule that can't stand", -5, x -> x.rule(0));
        TheyHearLate x = new TheyHearLate();
        check.due("rule", Check.rule(x, 0, "x"), 0);
        check.due("empty behind one that stands", x.count(5), 0);
        check.due("pays", Check.pays(x, "i"), 0);
        check.due("empty behind one that stands", x.count(5), 0);
    }

    /** An object is used for at most 512 calls after it has been made. */
    private static void lastOfAllCalls() {
        TheyHearLate x = new TheyHearLate();
        x.person(1, 0, 0);
        for (int i = 2; i <= 511; i++) {
            x.keep(i % 3);
        }
        check.due("the 512th call", x.go(199), 0);
    }
}
