import java.lang.reflect.InvocationTargetException;
import java.lang.reflect.Method;
import java.lang.reflect.Modifier;
import java.util.ArrayList;
import java.util.Comparator;
import java.util.List;
import java.util.NoSuchElementException;
import java.util.Random;
import java.util.Set;

/** Terms 2: whatever is asked, nothing is thrown but what the document names, and refused calls change nothing. */
public final class WildCallsTest {
    private static final Check check = new Check("WildCallsTest");
    private static final int[] WILD = {-1, 0, 1, 2, 3, 5, 6, 9, 10, 11, 20, 21, 99, 100, 199, 200, 222, 999, 1000, 9999,
            -2, -99, -999, 65536, Integer.MAX_VALUE, Integer.MIN_VALUE};
    private static final Set<String> MAY_BE_BELOW_0 = Set.of("beam", "seed", "two", "gap", "count", "place", "was", "does",
            "go", "row");

    public static void main(String[] args) throws IllegalAccessException {
        List<Method> face = new ArrayList<>();
        for (Method method : TheyHearLate.class.getDeclaredMethods()) {
            if (Modifier.isPublic(method.getModifiers())) {
                face.add(method);
            }
        }
        face.sort(Comparator.comparing(Method::getName));
        check.due("calls of the face", face.size(), 46);
        for (int round = 0; round < 300; round++) {
            new Round(new Random(round), face).play();
        }
        check.end();
    }

    private static final class Round {
        final Random random;
        final List<Method> face;
        final TheyHearLate all = new TheyHearLate();
        final TheyHearLate taken = new TheyHearLate();
        final boolean tame;

        Round(Random random, List<Method> face) {
            this.random = random;
            this.face = face;
            this.tame = random.nextInt(4) > 0;
        }

        void play() throws IllegalAccessException {
            for (int i = 0; i < 300; i++) {
                if (i % 7 == 0) {
                    tellRule();
                }
                Method method = face.get(random.nextInt(face.size()));
                Object[] with = with(method);
                Object answer = answer(all, method, with);
                if (isRefused(method, with, answer)) {
                    if (method.getName().equals("rule") || method.getName().equals("pays")) {
                        taken.end(0);
                    }
                } else {
                    Object same = answer(taken, method, with);
                    check.due(method.getName() + " without what was refused", answer.equals(same), true);
                }
            }
            look(0);
        }

        private void tellRule() {
            String[] rules = {"-x/5", "h+1", "t*99", "a-v", "y-x", "x*x*x/(t-5)", "-999*999*999*t/-1"};
            String rule = rules[random.nextInt(rules.length)];
            int i = random.nextInt(12);
            all.end(0);
            taken.end(0);
            check.due("rule", Check.rule(all, i, rule), 0);
            check.due("rule", Check.rule(taken, i, rule), 0);
        }

        private Object[] with(Method method) {
            Class<?>[] types = method.getParameterTypes();
            Object[] with = new Object[types.length];
            for (int i = 0; i < types.length; i++) {
                int wild = WILD[random.nextInt(WILD.length)];
                int small = random.nextInt(random.nextBoolean() ? 7 : 3);
                int any = random.nextInt(tame ? 12 : 3) > 0 ? small : wild;
                with[i] = types[i] == boolean.class ? (Object) random.nextBoolean() : (Object) any;
            }
            return with;
        }

        private Object answer(TheyHearLate x, Method method, Object[] with) throws IllegalAccessException {
            try {
                return method.invoke(x, with);
            } catch (InvocationTargetException e) {
                boolean named = e.getCause().getClass() == NoSuchElementException.class;
                boolean declared = method.getExceptionTypes().length == 1;
                check.due(method.getName() + " throws " + e.getCause(), named && declared, true);
                return NoSuchElementException.class;
            }
        }

        private boolean isRefused(Method method, Object[] with, Object answer) {
            if (answer == NoSuchElementException.class || answer.equals(false)) {
                return true;
            }
            String name = method.getName();
            if (name.equals("sheet")) {
                return answer.equals(-1) || answer.equals(-2);
            }
            return !MAY_BE_BELOW_0.contains(name) && answer instanceof Integer && (Integer) answer < 0;
        }

        /** All that can be asked, of both. */
        private void look(int from) {
            for (int what = 0; what <= 5; what++) {
                check.due("count(" + what + ")", taken.count(what), all.count(what));
            }
            for (int i = 0; i < all.count(4); i++) {
                check.due("row", taken.row(i), all.row(i));
            }
            for (int m = 0; m <= all.count(1); m++) {
                check.due("place", taken.place(m), all.place(m));
                for (int i = 0; i < all.count(0) && m < all.count(1); i++) {
                    for (int what = 0; what < 4; what++) {
                        check.due("was", taken.was(i, m, what), all.was(i, m, what));
                    }
                }
            }
            for (int i = 0; i < all.count(0); i++) {
                check.due("does", taken.does(i, 0), all.does(i, 0));
                check.due("says", taken.does(i, 1), all.does(i, 1));
                for (int j = 0; j < all.count(0); j++) {
                    check.due("by", taken.by(i, j, 50), all.by(i, j, 50));
                    check.due("says", taken.says(i, j), all.says(i, j));
                    check.due("soon", taken.soon(i, j), all.soon(i, j));
                    check.due("chance", taken.chance(i, j, 9), all.chance(i, j, 9));
                    check.due("sure", taken.sure(i, j, 40), all.sure(i, j, 40));
                    check.due("row", taken.count(4) == 0 ? 0 : taken.row(0), all.count(4) == 0 ? 0 : all.row(0));
                }
            }
            check.due("would", taken.would(20, 7), all.would(20, 7));
            check.due("two", taken.two(), all.two());
            check.due("crossed", taken.crossed(), all.crossed());
            check.due("start", taken.begin() ? taken.place(0) : 0, all.begin() ? all.place(0) : 0);
            check.due("down", taken.beam(2, 0), all.beam(2, 0));
            check.due("up", taken.beam(3, 0), all.beam(3, 0));
            check.due("R", taken.seed(0), all.seed(0));
            if (from < 3) {
                check.due("again", taken.again(from), all.again(from));
                look(from + 1);
            }
        }
    }
}
