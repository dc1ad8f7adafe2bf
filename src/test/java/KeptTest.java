/** Promises 43 to 47: what is kept, counted and told. */
public final class KeptTest {
    private static final Check check = new Check("KeptTest");

    public static void main(String[] args) {
        seeds();
        keeps();
        refusesAgain();
        counts();
        rows();
        check.end();
    }

    /** Promise 43. */
    private static void seeds() {
        TheyHearLate x = new TheyHearLate();
        check.due("at first", x.seed(Integer.MIN_VALUE), 1);
        check.due("what it was", x.seed(-1), Integer.MIN_VALUE);
        x.beam(2, 1);
        x.go(1);
        check.due("drawn", x.seed(7), -1103515245 + 12345);
        x.begin();
        check.due("begin leaves it", x.seed(1), 7);
    }

    /** Promises 44 and 45. */
    private static void keeps() {
        TheyHearLate x = new TheyHearLate();
        x.person(1, 1, 0);
        x.person(1, 0, 0);
        x.link(0, 0, 1, true);
        Check.rule(x, 0, "t+1");
        Check.rule(x, 1, "h+5");
        Check.rule(x, 3, "h+t");
        x.beam(0, 30);
        x.beam(1, 4);
        x.seed(99);
        x.go(4);
        check.due("keep", x.keep(2), true);
        x.begin();
        x.beam(0, -8);
        x.seed(3);
        x.go(6);
        check.due("keep another one", x.keep(0), true);
        x.begin();
        x.beam(0, 1);
        x.beam(1, 6);
        x.set(0, 0, 7);
        x.rule(3);
        check.due("again", x.again(2), true);
        check.due("now", x.count(1), 4);
        check.due("place", x.place(4), 40);
        check.due("due is as it is", x.count(3), 6);
        check.due("rules are as they are", x.count(2), 3);
        check.due("late is as it is", x.set(0, 0, 1), 7);
        check.due("R", x.seed(5), 99);
        int[][] one = {{1, 5, 0, 30}, {2, 5, 0, 30}, {3, 11, 6, 31}, {4, 12, 7, 33}};
        int[][] other = {{0, 0, 0, 30}, {0, 6, 5, 31}, {0, 7, 5, 33}, {0, 14, 11, 36}};
        for (int m = 0; m < 4; m++) {
            for (int what = 0; what < 4; what++) {
                check.due("was", x.was(0, m, what), one[m][what]);
                check.due("was of the other one", x.was(1, m, what), other[m][what]);
            }
        }
        check.due("hears what was said", x.does(0, 1), 14 + 5);
        check.due("did what was done", x.does(0, 0), 5);
        x.go(3);
        check.due("kept still", x.again(2), true);
        check.due("now", x.count(1), 4);
        check.due("R again", x.seed(5), 99);
        check.due("the other one", x.again(0), true);
        check.due("now", x.count(1), 6);
        check.due("place", x.place(0), -8);
        check.due("R", x.seed(1), 3);
        x.begin();
        check.due("start", x.place(0), -8);
        check.due("keep over it", x.keep(2), true);
        x.again(0);
        check.due("again", x.again(2), true);
        check.due("now", x.count(1), 0);
    }

    private static void refusesAgain() {
        TheyHearLate x = new TheyHearLate();
        check.due("keep of nobody", x.keep(1), true);
        check.due("again of nobody", x.again(1), true);
        check.due("nothing kept", x.again(0), false);
        check.due("nothing kept", x.again(2), false);
        check.due("keep 3", x.keep(3), false);
        check.due("keep -1", x.keep(-1), false);
        check.due("again 3", x.again(3), false);
        check.due("again -1", x.again(-1), false);
        x.person(0, 0, 0);
        x.go(5);
        check.due("one was told since", x.again(1), false);
        check.due("nothing changed", x.count(1), 5);
        x.keep(1);
        x.go(5);
        check.due("kept anew", x.again(1), true);
        check.due("kept anew", x.count(1), 5);
        x.person(21, 0, 0);
        check.due("one refused is none told", x.again(1), true);
        x.person(0, 0, 0);
        check.due("one was told since", x.again(1), false);
    }

    /** Promise 46. */
    private static void counts() {
        TheyHearLate x = new TheyHearLate();
        x.person(0, 0, 0);
        x.person(0, 0, 0);
        x.go(7);
        Check.rule(x, 2, "1");
        Check.rule(x, 11, "1");
        x.beam(1, -5);
        x.sign(0);
        x.end(3);
        x.two();
        check.due("people", x.count(0), 2);
        check.due("now", x.count(1), 7);
        check.due("rules told", x.count(2), 2048 + 4);
        check.due("due", x.count(3), -5);
        check.due("numbers of the row", x.count(4), 6);
        check.due("signs of the text", x.count(5), 3);
        check.due("another what", x.count(6), -1);
        check.due("another what", x.count(-1), -1);
    }

    /** Promise 47. */
    private static void rows() {
        TheyHearLate x = new TheyHearLate();
        check.isThrown("none yet", () -> x.row(0));
        x.beam(2, 10);
        x.steer(4, 50, 6, 1);
        check.due("a long number", x.row(0), 10000000000L * (44 + 42 + 40 + 38 + 36 + 34));
        check.due("the last one", x.row(1), -1);
        check.isThrown("behind it", () -> x.row(2));
        check.isThrown("-1", () -> x.row(-1));
        check.isThrown("the greatest", () -> x.row(Integer.MAX_VALUE));
        x.would(0, 1);
        x.edge(3);
        x.begin();
        x.place(0);
        check.due("other calls leave it", x.row(1), -1);
        x.would(1, 1);
        check.row("a shorter one", x, -1);
    }
}
