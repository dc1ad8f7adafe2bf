/** EXPRESSIONS read a second way, by a function for each strength of binding, as a measure for the class. */
final class Oracle {
    /** Something whose value follows from what its signs stand for. */
    interface Expression {
        int value(int... signs);
    }

    /** A text that is none: at is the place of the sign that can't stand. */
    static final class Fault extends RuntimeException {
        private static final long serialVersionUID = 1;
        final int at;

        Fault(int at) {
            this.at = at;
        }
    }

    private final String text;
    private final String signs;
    private int at;

    private Oracle(String text, String signs) {
        this.text = text;
        this.signs = signs;
    }

    static Expression read(String text, String signs) {
        Oracle oracle = new Oracle(text, signs);
        Expression all = oracle.either(0);
        if (oracle.at < text.length()) {
            throw new Fault(oracle.at);
        }
        return all;
    }

    /** What rule() or pays() has to answer to a text. */
    static int answer(String text, String signs) {
        if (text.isEmpty()) {
            return 0;
        }
        String known = text.substring(0, Math.min(40, text.length()));
        try {
            read(known, signs);
        } catch (Fault fault) {
            return -1 - fault.at;
        }
        return text.length() > 40 ? -41 : 0;
    }

    private char here() {
        return at < text.length() ? text.charAt(at) : 0;
    }

    private boolean skip(char sign) {
        if (here() == sign) {
            at++;
            return true;
        }
        return false;
    }

    private Expression either(int depth) {
        Expression left = both(depth);
        while (skip('|')) {
            Expression a = left;
            Expression b = both(depth);
            left = s -> a.value(s) != 0 | b.value(s) != 0 ? 1 : 0;
        }
        return left;
    }

    private Expression both(int depth) {
        Expression left = compared(depth);
        while (skip('&')) {
            Expression a = left;
            Expression b = compared(depth);
            left = s -> a.value(s) != 0 & b.value(s) != 0 ? 1 : 0;
        }
        return left;
    }

    private Expression compared(int depth) {
        Expression a = sum(depth);
        if (skip('<')) {
            Expression b = sum(depth);
            return s -> a.value(s) < b.value(s) ? 1 : 0;
        }
        if (skip('>')) {
            Expression b = sum(depth);
            return s -> a.value(s) > b.value(s) ? 1 : 0;
        }
        if (skip('=')) {
            Expression b = sum(depth);
            return s -> a.value(s) == b.value(s) ? 1 : 0;
        }
        return a;
    }

    private Expression sum(int depth) {
        Expression left = product(depth);
        while (here() == '+' || here() == '-') {
            boolean more = skip('+') || !skip('-');
            Expression a = left;
            Expression b = product(depth);
            left = s -> more ? a.value(s) + b.value(s) : a.value(s) - b.value(s);
        }
        return left;
    }

    private Expression product(int depth) {
        Expression left = thing(depth);
        while (here() == '*' || here() == '/') {
            boolean times = skip('*') || !skip('/');
            Expression a = left;
            Expression b = thing(depth);
            left = s -> times ? a.value(s) * b.value(s) : b.value(s) == 0 ? 0 : a.value(s) / b.value(s);
        }
        return left;
    }

    private Expression thing(int depth) {
        if (skip('!')) {
            Expression a = thing(depth);
            return s -> a.value(s) == 0 ? 1 : 0;
        }
        if (skip('-')) {
            Expression a = thing(depth);
            return s -> -a.value(s);
        }
        if (depth < 5 && skip('(')) {
            Expression a = either(depth + 1);
            if (!skip(')')) {
                throw new Fault(at);
            }
            return a;
        }
        int number = 0;
        int digits = 0;
        while (digits < 3 && here() >= '0' && here() <= '9') {
            number = number * 10 + here() - '0';
            digits++;
            at++;
        }
        if (digits > 0) {
            int told = number;
            return s -> told;
        }
        int which = here() == 0 ? -1 : signs.indexOf(here());
        if (which < 0) {
            throw new Fault(at);
        }
        at++;
        return s -> s[which];
    }
}
