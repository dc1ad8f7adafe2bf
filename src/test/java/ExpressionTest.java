import java.util.Random;

/** Terms 1, EXPRESSION, with promises 9 and 30: texts by draws, measured by a second reader. */
public final class ExpressionTest {
    private static final Check check = new Check("ExpressionTest");
    private static final String SIGNS = "ijab";

    public static void main(String[] args) {
        valuesByHand();
        wholeTexts();
        brokenTexts();
        check.end();
    }

    private static void valuesByHand() {
        value("7-2-1", 4);
        value("7-(2-1)", 6);
        value("60/6/2", 5);
        value("60/(6/2)", 20);
        value("2+3*4", 14);
        value("(2+3)*4", 20);
        value("2*7/3", 4);
        value("7/3*2", 4);
        value("-7/2", -3);
        value("7/-2", -3);
        value("-(7/2)", -3);
        value("5/0", 0);
        value("-5/(2-2)+9", 9);
        value("2--3", 5);
        value("2-!3", 2);
        value("-!0", -1);
        value("!-5", 0);
        value("!!5", 1);
        value("!0", 1);
        value("!2+3", 3);
        value("-2*-3", 6);
        value("---2", -2);
        value("2<3", 1);
        value("3<3", 0);
        value("3>2", 1);
        value("3>3", 0);
        value("3=3", 1);
        value("2+2=4", 1);
        value("1+(2=2)", 2);
        value("3&5", 1);
        value("3&0", 0);
        value("0|7", 1);
        value("0|0", 0);
        value("2|0&0", 1);
        value("(2|0)&0", 0);
        value("1<2&3<2|5", 1);
        value("!1=0", 1);
        value("!(1=0)", 1);
        value("(1<2)<2", 1);
        value("(3>2)=1", 1);
        value("999*999*999*999", (int) (999L * 999 * 999 * 999));
        value("007", 7);
        value("((((((1))))))", 0);
    }

    private static void value(String text, int want) {
        TheyHearLate x = new TheyHearLate();
        Check.pays(x, text);
        for (int i = 0; i < 9; i++) {
            x.weight(i / 3, i % 3, i == 0 ? 1 : 0);
        }
        check.due("value of " + text, x.two(), want);
    }

    private static void wholeTexts() {
        Random random = new Random(9);
        for (int round = 0; round < 4000; round++) {
            String text = expression(random, 1 + random.nextInt(5), 0);
            if (text.length() <= 40) {
                TheyHearLate x = new TheyHearLate();
                int answer = Oracle.answer(text, SIGNS);
                check.due("pays of " + text, Check.pays(x, text), answer);
                if (answer == 0) {
                    asPaid(x, text);
                }
            }
        }
    }

    /** With one weight alone, two() is the most of what is paid there. */
    private static void asPaid(TheyHearLate x, String text) {
        Oracle.Expression told = Oracle.read(text, SIGNS);
        for (int seen = 0; seen < 9; seen += 4) {
            for (int i = 0; i < 9; i++) {
                x.weight(i / 3, i % 3, i == seen ? 1 : 0);
            }
            long most = Long.MIN_VALUE;
            for (int done = 0; done < 9; done++) {
                most = Math.max(most, told.value(seen / 3, seen % 3, done / 3, done % 3));
            }
            check.due("value of " + text, x.two(), most);
        }
    }

    private static String expression(Random random, int size, int depth) {
        if (size <= 1) {
            String[] things = {"i", "j", "a", "b", "0", "1", "2", "13", "999"};
            return things[random.nextInt(things.length)];
        }
        switch (random.nextInt(8)) {
            case 0:
                return "!" + wrapped(random, size - 1, depth);
            case 1:
                return "-" + wrapped(random, size - 1, depth);
            case 2:
                return wrapped(random, size - 1, depth);
            default:
                int left = 1 + random.nextInt(size - 1);
                String deeds = "|&<>=+-*/+-*/";
                return expression(random, left, depth) + deeds.charAt(random.nextInt(deeds.length()))
                        + expression(random, size - left, depth);
        }
    }

    private static String wrapped(Random random, int size, int depth) {
        return depth < 6 ? "(" + expression(random, size, depth + 1) + ")" : "a";
    }

    private static void brokenTexts() {
        Random random = new Random(10);
        String some = "ijab019!--()((+*/<=>&|";
        TheyHearLate x = new TheyHearLate();
        for (int round = 0; round < 20000; round++) {
            if (round % 30 == 0) {
                x = new TheyHearLate();
            }
            StringBuilder text = new StringBuilder();
            if (round % 2 == 0) {
                text.append(expression(random, 2 + random.nextInt(14), 0));
            }
            int changes = 1 + random.nextInt(6);
            for (int i = 0; i < changes; i++) {
                char sign = random.nextInt(20) == 0 ? (char) random.nextInt(256) : some.charAt(random.nextInt(some.length()));
                text.insert(random.nextInt(text.length() + 1), sign);
            }
            while (round % 5 == 0 && text.length() < 45) {
                text.append(random.nextBoolean() ? "+i" : "-(a)");
            }
            String told = text.substring(0, Math.min(60, text.length()));
            check.due("pays of " + told, Check.pays(x, told), Oracle.answer(told, SIGNS));
        }
    }
}
