/** Promises 11 to 23: minutes that go by, and what is asked of them. */
public final class MinutesTest {
    private static final Check check = new Check("MinutesTest");

    public static void main(String[] args) {
        goes();
        goesWithWind();
        beginsAnew();
        places();
        wasAsItWas();
        signsOfARule();
        costs();
        crossings();
        mustHaveSaid();
        wouldBe();
        bestOfRules();
        bestPair();
        echoes();
        waitings();
        swingings();
        check.end();
    }

    /** Promise 11. */
    private static void goes() {
        TheyHearLate x = new TheyHearLate();
        x.beam(0, 990);
        check.due("go(0)", x.go(0), 990);
        x.person(0, 0, 0);
        x.person(0, 0, 0);
        Check.rule(x, 0, "50");
        Check.rule(x, 2, "-2");
        check.due("9 - 2", x.go(1), 997);
        check.due("put to its bound", x.go(1), 999);
        check.due("now", x.count(1), 2);
        check.isThrown("go(-1)", () -> x.go(-1));
        check.isThrown("go(200)", () -> x.go(200));
        check.due("now stays", x.count(1), 2);
        check.due("to 199 at most", x.go(199), 999);
        check.due("now", x.count(1), 199);
        check.due("no further", x.go(1), 999);
        check.due("now", x.count(1), 199);
        x.begin();
        check.due("199 minutes", x.go(199), 999);
        check.due("now", x.count(1), 199);
        x.begin();
        Check.rule(x, 0, "-9");
        Check.rule(x, 2, "-9");
        check.due("put to its lower bound", x.go(150), -999);
    }

    /** Draws by hand: R 1 gives 1103527590, that by 65536 is 16838; then 2524885223 (38526), 662824084 (10113). */
    private static void goesWithWind() {
        TheyHearLate x = new TheyHearLate();
        x.go(3);
        check.due("no draw without wind", x.seed(1), 1);
        x.begin();
        x.beam(3, 2);
        check.due("8 is up of 2", x.go(1), 1);
        check.due("6 is not", x.go(1), 1);
        check.due("3 is not", x.go(1), 1);
        check.due("R", x.seed(1), 662824084);
        x.begin();
        x.beam(3, 1);
        check.due("8 is not up of 1", x.go(3), 0);
        x.begin();
        x.seed(1);
        x.beam(2, 4);
        check.due("8 is not down of 4", x.go(1), 0);
        check.due("6 is not", x.go(1), 0);
        check.due("3 is", x.go(1), -1);
        x.begin();
        x.seed(1);
        x.beam(2, 3);
        check.due("3 is not down of 3", x.go(3), 0);
        x.begin();
        x.beam(3, 0);
        x.beam(2, 10);
        check.due("down always", x.go(9), -9);
        x.begin();
        x.beam(2, 0);
        x.beam(3, 10);
        x.beam(0, 998);
        check.due("up always, put to its bound", x.go(9), 999);
    }

    /** Promise 12. */
    private static void beginsAnew() {
        TheyHearLate x = new TheyHearLate();
        x.beam(0, 7);
        x.person(0, 0, 0);
        x.person(0, 0, 0);
        x.link(0, 0, 1, true);
        Check.rule(x, 0, "1+a");
        Check.rule(x, 1, "1");
        Check.rule(x, 2, "h");
        x.beam(3, 5);
        x.go(5);
        int r = x.seed(9);
        x.seed(r);
        check.due("begin", x.begin(), true);
        check.due("now", x.count(1), 0);
        check.due("place", x.place(0), 7);
        check.due("R stays", x.seed(r), r);
        check.due("nothing done", x.does(0, 0), 1);
        check.due("nothing heard", x.does(1, 0), 0);
        check.due("no cost", x.cost(), 0);
        check.isThrown("nothing was", () -> x.was(0, 0, 0));
        check.isThrown("no place", () -> x.place(1));
        check.due("rules stay", x.count(2), 7);
    }

    /** Promise 13. */
    private static void places() {
        TheyHearLate x = new TheyHearLate();
        x.person(0, 0, 0);
        Check.rule(x, 0, "t+1");
        x.go(3);
        check.due("place(0)", x.place(0), 0);
        check.due("place(1)", x.place(1), 1);
        check.due("place(2)", x.place(2), 3);
        check.due("place(3)", x.place(3), 6);
        check.isThrown("place(4)", () -> x.place(4));
        check.isThrown("place(-1)", () -> x.place(-1));
        x.go(199);
        check.due("place(199)", x.place(199), 999);
        check.isThrown("place(200)", () -> x.place(200));
    }

    /** Promise 14. */
    private static void wasAsItWas() {
        TheyHearLate x = new TheyHearLate();
        x.beam(0, 50);
        x.person(2, 1, 0);
        x.person(1, 0, 0);
        x.link(0, 0, 1, true);
        Check.rule(x, 0, "t-2");
        Check.rule(x, 1, "10+t");
        Check.rule(x, 3, "20+t");
        x.go(4);
        int[][] first = {{-2, 10, 0, 50}, {-1, 11, 0, 50}, {0, 12, 20, 48}, {1, 13, 21, 47}};
        int[][] second = {{0, 20, 0, 50}, {0, 21, 10, 48}, {0, 22, 11, 47}, {0, 23, 12, 47}};
        x.set(0, 0, 1);
        x.set(0, 1, 0);
        x.link(0, 0, 1, false);
        Check.rule(x, 1, "");
        for (int m = 0; m < 4; m++) {
            for (int what = 0; what < 4; what++) {
                check.due("was(0, " + m + ", " + what + ")", x.was(0, m, what), first[m][what]);
                check.due("was(1, " + m + ", " + what + ")", x.was(1, m, what), second[m][what]);
            }
        }
        x.person(0, 0, 0);
        Check.rule(x, 4, "a+3");
        Check.rule(x, 5, "5");
        x.link(0, 2, 1, true);
        for (int what = 0; what < 4; what++) {
            check.due("one told later", x.was(2, 3, what), 0);
        }
        check.due("hears what was said ahead", x.does(2, 0), 3);
        x.go(1);
        check.due("did then", x.was(2, 4, 0), 3);
        check.due("heard then", x.was(2, 4, 2), 23);
        check.due("saw then", x.was(2, 4, 3), 48);
        check.isThrown("now", () -> x.was(0, 5, 0));
        check.isThrown("minute -1", () -> x.was(0, -1, 0));
        check.isThrown("what 4", () -> x.was(0, 0, 4));
        check.isThrown("what -1", () -> x.was(0, 0, -1));
        check.isThrown("one 3", () -> x.was(3, 0, 0));
        check.isThrown("one -1", () -> x.was(-1, 0, 0));
    }

    /** Terms 1: what the signs stand for, told by what is said. */
    private static void signsOfARule() {
        TheyHearLate x = new TheyHearLate();
        x.beam(0, 40);
        x.beam(1, -6);
        x.person(0, 2, 0);
        Check.rule(x, 0, "t+1");
        Check.rule(x, 1, "x");
        said(x, 40, 40, 40, 41, 43);
        Check.rule(x, 1, "v");
        said(x, 0, 0, 0, 1, 2, 3);
        Check.rule(x, 1, "a");
        said(x, 0, 1, 2, 3);
        Check.rule(x, 1, "y");
        said(x, -6, -6);
        x.set(0, 1, 0);
        Check.rule(x, 1, "v");
        said(x, 0, 1, 2, 3);
        Check.rule(x, 1, "x");
        said(x, 40, 41, 43, 46);
        x.set(0, 1, 20);
        said(x, 40, 40, 40, 40);
    }

    private static void said(TheyHearLate x, int... want) {
        x.begin();
        x.go(want.length);
        for (int m = 0; m < want.length; m++) {
            check.due("said in minute " + m, x.was(0, m, 1), want[m]);
        }
    }

    /** Promise 15. */
    private static void costs() {
        TheyHearLate x = new TheyHearLate();
        x.person(0, 0, 0);
        check.due("no minutes", x.cost(), 0);
        check.row("no minutes", x, 0, 0);
        Check.rule(x, 0, "(t<3)-(t>3)*(t<6)");
        x.go(8);
        check.due("1 2 3 3 2 1 1 1", x.cost(), 14);
        check.row("due 0", x, -1, 3);
        x.beam(1, 1);
        check.due("due as it is now", x.cost(), 0 + 1 + 2 + 2 + 1);
        check.row("settled from 6 on", x, 6, 2);
        x.beam(1, -2);
        check.due("due below", x.cost(), 14 + 16);
        check.row("due below", x, -1, 5);
        x.begin();
        check.due("begun", x.cost(), 0);
        check.row("begun", x, -1, 2);
        Check.rule(x, 0, "");
        x.beam(0, -2);
        x.go(5);
        check.due("never off", x.cost(), 0);
        check.row("never off", x, 0, 0);
    }

    /** Promise 16. */
    private static void crossings() {
        TheyHearLate x = new TheyHearLate();
        check.due("nobody", x.crossed(), 0);
        x.person(0, 0, 0);
        x.person(3, 0, 0);
        x.person(1, 0, 0);
        x.link(0, 0, 1, true);
        Check.rule(x, 1, "t=1");
        Check.rule(x, 3, "t=1|t=3|t=4|t=0");
        Check.rule(x, 5, "1");
        check.due("nothing said", x.crossed(), 0);
        x.go(2);
        check.due("in the same minute", x.crossed(), 1);
        x.go(10);
        check.due("in the same one, and 2 later, not 3", x.crossed(), 2);
        x.set(1, 0, 4);
        check.due("late as it is now", x.crossed(), 3);
        x.set(1, 0, 0);
        check.due("in the same one alone", x.crossed(), 1);
        x.set(1, 0, 1);
        check.due("in the same one alone", x.crossed(), 1);
        x.set(0, 0, 2);
        check.due("0 behind 1 too", x.crossed(), 2);
        x.link(0, 0, 1, false);
        check.due("near as it is now", x.crossed(), 0);
        x.link(0, 1, 2, true);
        check.due("four in the same minute", x.crossed(), 4);
        x.set(2, 0, 2);
        check.due("and four the minute behind", x.crossed(), 8);
        x.begin();
        x.go(1);
        check.due("only what went by", x.crossed(), 1);
    }

    /** Promise 17. */
    private static void mustHaveSaid() {
        TheyHearLate x = new TheyHearLate();
        x.person(5, 0, 0);
        x.person(0, 0, 0);
        check.due("not near", x.by(0, 1, 199), -2);
        x.link(0, 0, 1, true);
        check.due("late 0 is 1", x.by(0, 1, 199), 198);
        check.due("late 5", x.by(1, 0, 199), 194);
        check.due("0", x.by(1, 0, 5), 0);
        check.due("below 0", x.by(1, 0, 4), -2);
        check.due("below 0", x.by(0, 1, 0), -2);
        check.due("0", x.by(0, 1, 1), 0);
        check.due("minute 200", x.by(0, 1, 200), -1);
        check.due("minute -1", x.by(0, 1, -1), -1);
        check.due("like ones", x.by(0, 0, 9), -1);
        check.due("none such", x.by(0, 2, 9), -1);
        check.due("none such", x.by(-1, 0, 9), -1);
    }

    /** Promise 18. */
    private static void wouldBe() {
        TheyHearLate x = new TheyHearLate();
        x.beam(0, 10);
        check.due("nobody", x.would(3, 1), 30);
        check.row("nobody", x, 10);
        x.person(0, 0, 0);
        Check.rule(x, 0, "-x/2");
        x.go(2);
        Check.rule(x, 0, "-x/3");
        x.beam(1, 2);
        check.due("7 5 4, less 2", x.would(3, 1), 5 + 3 + 2);
        check.row("then", x, 4);
        check.due("now stays", x.count(1), 2);
        check.due("place stays", x.place(2), 3);
        check.due("what was done stays", x.was(0, 1, 0), -2);
        check.due("R stays", x.seed(1), 1);
        check.due("7 5 4 3 2 2, less 2", x.would(199, 1), 5 + 3 + 2 + 1);
        check.due("n 0", x.would(0, 1), -1);
        check.due("n 200", x.would(200, 1), -1);
        check.row("stays", x, 2);
        x.beam(3, 2);
        Check.rule(x, 0, "");
        x.seed(77);
        check.due("by its own seed", x.would(3, 1), 9 * 3);
        check.row("by its own seed", x, 11);
        check.due("R stays", x.seed(1), 77);
        x.beam(3, 10);
        check.due("bounds", x.would(199, 5), 9 * 199 + 200 * 199 / 2 - 199);
    }

    /** Promise 19. */
    private static void bestOfRules() {
        TheyHearLate x = new TheyHearLate();
        x.beam(0, 10);
        x.person(0, 0, 0);
        x.person(0, 0, 0);
        check.due("none told", x.rules(0, 0, 11, 3), -2);
        Check.rule(x, 1, "5");
        check.due("none of do told", x.rules(0, 0, 11, 3), -2);
        Check.rule(x, 0, "1");
        Check.rule(x, 4, "-2");
        Check.rule(x, 10, "-2");
        Check.rule(x, 8, "-1");
        check.due("of one with a rule", x.rules(0, 0, 11, 3), 4);
        check.row("8 6 4", x, 18);
        check.due("of one besides another one", x.rules(1, 0, 11, 3), 4);
        check.row("9 8 7", x, 24);
        check.due("from 5", x.rules(0, 5, 11, 3), 10);
        check.due("from 5 to 9", x.rules(0, 5, 9, 3), 8);
        check.row("9 8 7", x, 24);
        check.due("just one", x.rules(0, 0, 0, 3), 0);
        check.row("11 12 13", x, 36);
        check.due("none told from 5 to 7", x.rules(0, 5, 7, 3), -2);
        check.due("its own rule stays", x.would(3, 1), 36);
        x.seed(3);
        x.beam(3, 2);
        check.due("by R 1", x.rules(0, 4, 4, 3), 4);
        check.row("9 7 5", x, 21);
        check.due("R stays", x.seed(0), 3);
        int[][] refused = {{2, 0, 11, 3}, {-1, 0, 11, 3}, {0, -1, 11, 3}, {0, 0, 12, 3}, {0, 5, 4, 3}, {0, 0, 11, 0},
                {0, 0, 11, 200}};
        for (int[] r : refused) {
            check.due("rules refused", x.rules(r[0], r[1], r[2], r[3]), -1);
        }
        check.row("stays", x, 21);
    }

    /** Promise 20. */
    private static void bestPair() {
        TheyHearLate x = new TheyHearLate();
        x.beam(0, 10);
        x.person(0, 0, 0);
        x.person(0, 0, 0);
        x.person(0, 0, 0);
        check.due("none told", x.pair(0, 1, 3), -2);
        Check.rule(x, 4, "1");
        check.due("one told", x.pair(0, 1, 2), 13 + 16);
        check.row("the same for both", x, 4, 4);
        Check.rule(x, 2, "-9");
        check.due("of equal ones the least", x.pair(2, 1, 2), 2 + 6);
        check.row("of equal ones the least", x, 2, 4);
        Check.rule(x, 6, "-3");
        check.due("4, -2", x.pair(2, 1, 2), 4 + 2);
        check.row("4, -2", x, 6, 6);
        check.due("5, 0 with what the third does", x.pair(1, 0, 2), 5);
        check.row("5, 0", x, 6, 6);
        Check.rule(x, 8, "-4");
        check.due("3, -4 or 4, -2 or 5, 0", x.pair(1, 0, 2), 5);
        check.row("-3 and -3 or -9 and 4", x, 6, 6);
        x.rule(6);
        Check.rule(x, 10, "-1");
        check.due("-4 and -1: 6, 2; -4 and -4: 3, -4", x.pair(0, 1, 2), 7);
        check.row("of equal ones the least for the one", x, 2, 4);
        x.rule(8);
        check.due("rules stay", x.would(2, 1), 2 + 6);
        int[][] refused = {{0, 0, 3}, {0, 3, 3}, {-1, 0, 3}, {0, 1, 0}, {0, 1, 200}};
        for (int[] r : refused) {
            check.due("pair refused", x.pair(r[0], r[1], r[2]), -1);
        }
    }

    /** Promise 21. */
    private static void echoes() {
        TheyHearLate x = new TheyHearLate();
        check.due("none such", x.echo(0), -1);
        x.person(1, 0, 0);
        x.person(1, 0, 0);
        x.link(0, 0, 1, true);
        check.due("no minutes", x.echo(1), 0);
        check.row("no minutes", x, 0);
        Check.rule(x, 1, "(t<3|t=5|t=6)*7");
        Check.rule(x, 3, "h");
        x.go(10);
        check.due("5 said again", x.echo(1), 5);
        check.row("3 on end", x, 3);
        check.due("the other one", x.echo(0), 1);
        check.row("minute 2", x, 1);
        check.due("none such", x.echo(2), -1);
        check.due("none such", x.echo(-1), -1);
        check.row("stays", x, 1);
    }

    /** Promise 22. */
    private static void waitings() {
        TheyHearLate x = new TheyHearLate();
        check.due("none such", x.waits(0), -1);
        x.person(0, 0, 0);
        x.person(0, 0, 0);
        check.due("no minutes", x.waits(0), 0);
        check.row("no minutes", x, 0, 0);
        Check.rule(x, 0, "t-4+(t=3)-2*(t=8)");
        Check.rule(x, 2, "-2*(t>4)+4*(t=2)");
        x.go(9);
        check.due("minutes 3, 4", x.waits(0), 2);
        check.row("minutes 2, 5", x, 2, 2);
        check.due("minutes 0, 1, 3, 4", x.waits(1), 4);
        check.row("minutes 2 (+2), 5 (-1), 7, 8", x, 2, 1);
        x.person(0, 0, 0);
        check.due("one told later did nothing", x.waits(2), 9);
        check.row("all", x, 9, 0);
        check.due("none such", x.waits(3), -1);
        check.due("none such", x.waits(-1), -1);
        check.row("stays", x, 9, 0);
    }

    /** Promise 23. */
    private static void swingings() {
        TheyHearLate x = new TheyHearLate();
        check.due("no minutes", x.swings(), 0);
        check.row("no minutes", x, 0, 0);
        x.person(0, 0, 0);
        x.person(0, 0, 0);
        Check.rule(x, 0, "2*(t<2|t=6)-5*(t=2)");
        Check.rule(x, 2, "(t=4|t=5)-(t=3)-4*(t=8)");
        x.go(9);
        check.due("0 2 4 -1 -2 -1 0 2 2 -2", x.swings(), 3);
        check.row("to 4, and behind", x, 4, 2);
        x.beam(1, -1);
        check.due("1 3 5 0 -1 0 1 3 3 -1", x.swings(), 3);
        check.row("to 4, and behind", x, 5, 3);
        x.begin();
        x.go(1);
        check.due("1 3", x.swings(), 0);
        check.row("to 0, and behind", x, 1, 3);
        x.go(1);
        check.due("1 3 5", x.swings(), 0);
        check.row("to 1, and behind", x, 3, 5);
    }
}
