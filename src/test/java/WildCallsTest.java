import java.lang.reflect.InvocationTargetException;
import java.lang.reflect.Method;
import java.lang.reflect.Modifier;
import java.util.ArrayList;
import java.util.Comparator;
import java.util.List;
import java.util.NoSuchElementException;
import java.util.Random;
import java.util.Set;
import java.util.function.Consumer;

/** Terms 2: whatever is asked, nothing is thrown but what the document names, and refused calls change nothing. */
public final class WildCallsTest {
    private static final Check check = new Check("WildCallsTest");
    private static final int[] WILD = {-1, 0, 1, 2, 3, 5, 6, 9, 10, 11, 20, 21, 99, 100, 199, 200, 222, 999, 1000, 9999,
            -2, -99, -999, 65536, Integer.MAX_VALUE, Integer.MIN_VALUE};
    private static final Set<String> MAY_BE_BELOW_0 = Set.of("beam", "seed", "two", "gap", "count", "place", "was", "does",
            "go", "row");

    public static void main(String[] args) {
        List<Method> face = new ArrayList<>();
        for (Method method : TheyHearLate.class.getDeclaredMethods()) {
            if (Modifier.isPublic(method.getModifiers())) {
                face.add(method);
            }
        }
        face.sort(Comparator.comparing(Method::getName));
        check.due("calls of the face", face.size(), 46);
        for (int round = 0; round < 400; round++) {
            new Round(new Random(round), face).play();
        }
        check.end();
    }

    private static final class Round {
        final Random random;
        final List<Method> face;
        final TheyHearLate all = new TheyHearLate();
        final TheyHearLate taken = new TheyHearLate();
        /** What was asked of either, to ask the same of others: one alone is not used for all. */
        final List<Consumer<TheyHearLate>> ofAll = new ArrayList<>();
        final List<Consumer<TheyHearLate>> ofTaken = new ArrayList<>();
        final boolean tame;

        Round(Random random, List<Method> face) {
            this.random = random;
            this.face = face;
            this.tame = random.nextInt(4) > 0;
        }

        void play() {
            for (int i = 0; i < 180; i++) {
                if (i % 9 == 0) {
                    tellRule();
                }
                Method method = face.get(random.nextInt(face.size()));
                Object[] with = with(method);
                Object answer = answer(all, method, with);
                ofAll.add(x -> answer(x, method, with));
                if (isRefused(method, with, answer)) {
                    if (method.getName().equals("rule") || method.getName().equals("pays")) {
                        taken.end(0);
                        ofTaken.add(x -> x.end(0));
                    }
                } else {
                    Object same = answer(taken, method, with);
                    ofTaken.add(x -> answer(x, method, with));
                    check.due(method.getName() + " without what was refused", answer.equals(same), true);
                }
            }
            List<Long> want = World.allOf(() -> made(ofTaken));
            List<Long> got = World.allOf(() -> made(ofAll));
            check.due("all answers without what was refused", got.equals(want), true);
        }

        private static TheyHearLate made(List<Consumer<TheyHearLate>> calls) {
            TheyHearLate x = new TheyHearLate();
            for (Consumer<TheyHearLate> call : calls) {
                call.accept(x);
            }
            return x;
        }

        private void tellRule() {
            String[] rules = {"-x/5", "h+1", "t*99", "a-v", "y-x", "x*x*x/(t-5)", "-999*999*999*t/-1"};
            String rule = rules[random.nextInt(rules.length)];
            int i = random.nextInt(12);
            for (TheyHearLate x : List.of(all, taken)) {
                x.end(0);
                check.due("rule", Check.rule(x, i, rule), 0);
            }
            Consumer<TheyHearLate> call = x -> {
                x.end(0);
                Check.rule(x, i, rule);
            };
            ofAll.add(call);
            ofTaken.add(call);
        }

        private Object[] with(Method method) {
            Class<?>[] types = method.getParameterTypes();
            Object[] with = new Object[types.length];
            for (int i = 0; i < types.length; i++) {
                int wild = WILD[random.nextInt(WILD.length)];
                int small = random.nextInt(random.nextBoolean() ? 7 : 3);
                int any = random.nextInt(tame ? 12 : 3) > 0 ? small : wild;
                with[i] = types[i] == boolean.class ? (Object) random.nextBoolean() : (Object) any;
            }
            return with;
        }

        private Object answer(TheyHearLate x, Method method, Object[] with) {
            try {
                return method.invoke(x, with);
            } catch (IllegalAccessException e) {
                throw new IllegalStateException(e);
            } catch (InvocationTargetException e) {
                boolean named = e.getCause().getClass() == NoSuchElementException.class;
                boolean declared = method.getExceptionTypes().length == 1;
                check.due(method.getName() + " throws " + e.getCause(), named && declared, true);
                return NoSuchElementException.class;
            }
        }

        private boolean isRefused(Method method, Object[] with, Object answer) {
            if (answer == NoSuchElementException.class || answer.equals(false)) {
                return true;
            }
            String name = method.getName();
            if (name.equals("sheet")) {
                return answer.equals(-1) || answer.equals(-2);
            }
            return !MAY_BE_BELOW_0.contains(name) && answer instanceof Integer && (Integer) answer < 0;
        }
    }
}
