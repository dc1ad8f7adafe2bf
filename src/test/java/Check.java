import java.util.NoSuchElementException;

/** Counts the answers of a test that are not the ones that are due, and tells each. */
final class Check {
    private final String name;
    private int asked;
    private int wrong;

    Check(String name) {
        this.name = name;
    }

    void due(String call, long got, long want) {
        asked++;
        if (got != want) {
            wrong++;
            System.out.println(name + ": " + call + " answered " + got + ", due is " + want);
        }
    }

    void due(String call, boolean got, boolean want) {
        due(call, got ? 1 : 0, want ? 1 : 0);
    }

    void isThrown(String call, Runnable run) {
        boolean thrown = false;
        try {
            run.run();
        } catch (NoSuchElementException e) {
            thrown = true;
        }
        due(call + " throws NoSuchElementException", thrown, true);
    }

    /** The numbers of the ROW, no more and no fewer. */
    void row(String call, TheyHearLate x, long... want) {
        due(call + ", numbers of the row", x.count(4), want.length);
        for (int i = 0; i < want.length && i < x.count(4); i++) {
            due(call + ", row(" + i + ")", x.row(i), want[i]);
        }
        isThrown(call + ", row(" + want.length + ")", () -> x.row(want.length));
    }

    void end() {
        System.out.println(name + ": " + asked + " answers, " + wrong + " not as due");
        if (wrong != 0) {
            System.exit(1);
        }
    }

    /** THE TEXT becomes just this one (it must be empty ahead of it). */
    static void tell(TheyHearLate x, String text) {
        for (int at = 0; at < text.length(); at += 4) {
            int v = 0;
            for (int i = at; i < at + 4; i++) {
                v = v << 8 | (i < text.length() ? text.charAt(i) & 255 : 0);
            }
            x.sign(v);
        }
        x.end(text.length());
    }

    static int rule(TheyHearLate x, int i, String text) {
        tell(x, text);
        return x.rule(i);
    }

    static int pays(TheyHearLate x, String text) {
        tell(x, text);
        return x.pays();
    }

    /** What an EXPRESSION of numbers alone comes to: the sum of two(), if it is THE PAY and weighs once. */
    void value(String text, long want) {
        TheyHearLate x = new TheyHearLate();
        due("pays of " + text, pays(x, text), 0);
        for (int i = 1; i < 9; i++) {
            x.weight(i / 3, i % 3, 0);
        }
        due("value of " + text, x.two(), want);
    }

    /** A RULE that can't be told answers so, empties THE TEXT, and leaves what was told before. */
    void fault(String text, int want) {
        TheyHearLate x = new TheyHearLate();
        x.person(0, 0, 0);
        rule(x, 1, "77");
        due("rule of " + text, rule(x, 1, text), want);
        due("signs of THE TEXT behind " + text, x.count(5), 0);
        due("rules told behind " + text, x.count(2), 2);
        due("the rule ahead of " + text + " stays", x.does(0, 1), 77);
    }

    static String times(String text, int n) {
        return text.repeat(n);
    }
}
