import java.util.ArrayList;
import java.util.List;
import java.util.NoSuchElementException;
import java.util.function.Consumer;
import java.util.function.Supplier;

/**
 * A yard in which little is as at first, and all that can be asked of it: by it a call that is refused is seen to
 * change nothing. Each part is asked of an object of its own, so that none is used for more than 512 calls.
 */
final class World {
    interface Call {
        long of(TheyHearLate x);
    }

    interface Truth {
        boolean of(TheyHearLate x);
    }

    private static final int PARTS = 10;

    private final Check check;
    private final Supplier<TheyHearLate> made;
    private final List<Long> before;

    World(Check check, Supplier<TheyHearLate> made) {
        this.check = check;
        this.made = made;
        this.before = seen(x -> { });
    }

    TheyHearLate make() {
        return made.get();
    }

    /** Five people in MINUTE 7, with courses kept under 0 and 2, three numbers in the ROW and three signs of THE TEXT. */
    static TheyHearLate five() {
        TheyHearLate x = new TheyHearLate();
        int[][] people = {{3, 1, 2}, {1, 2, 4}, {2, 0, 1}, {4, 3, 0}, {5, 2, 3}};
        for (int[] p : people) {
            x.person(p[0], p[1], p[2]);
        }
        x.link(0, 0, 1, true);
        x.link(0, 1, 2, true);
        x.link(0, 2, 3, true);
        x.link(1, 0, 1, true);
        x.link(1, 2, 0, true);
        x.link(1, 3, 4, true);
        String[] rules = {"-x/5", "h+t+1", "a+1", "t", "", "7-t", "", "", "y-x", "", "t-3", "x/9"};
        for (int i = 0; i < rules.length; i++) {
            if (!rules[i].isEmpty()) {
                Check.rule(x, i, rules[i]);
            }
        }
        x.weight(0, 1, 7);
        x.weight(2, 2, 0);
        Check.pays(x, "(a=i)*5+b-j");
        x.fog(0, 5, 3, 1);
        x.fog(3, 0, 10, 0);
        x.beam(0, 40);
        x.beam(1, -6);
        x.beam(2, 2);
        x.beam(3, 3);
        x.seed(77);
        x.go(4);
        x.keep(0);
        x.begin();
        x.beam(0, 15);
        x.seed(-5);
        x.go(6);
        x.keep(2);
        x.go(1);
        x.pull(1, 10, 10, 6);
        Check.tell(x, "x+7");
        return x;
    }

    /** The same with as many people as there can be. */
    static TheyHearLate six() {
        TheyHearLate x = five();
        x.person(1, 1, 1);
        return x;
    }

    /** The same in MINUTE 0. */
    static TheyHearLate begun() {
        TheyHearLate x = five();
        x.begin();
        return x;
    }

    /** The call answers so, and all is as it was. */
    void refuses(String call, long answer, Call asked) {
        check.due(call, asked.of(made.get()), answer);
        leaves(call, asked);
    }

    void refusesTruth(String call, Truth asked) {
        refuses(call, 0, x -> asked.of(x) ? 1 : 0);
    }

    void throwsNoSuch(String call, Call asked) {
        refuses(call, 1, x -> {
            try {
                asked.of(x);
            } catch (NoSuchElementException e) {
                return 1;
            }
            return 0;
        });
    }

    /** The call answers so, and all is as it was, but that THE TEXT is empty. */
    void refusesWithTheText(String call, long answer, Call asked) {
        check.due(call, asked.of(made.get()), answer);
        compare(call + " changes nothing but THE TEXT", seen(asked::of), seen(x -> x.end(0)));
    }

    void leaves(String call, Call asked) {
        compare(call + " changes nothing", seen(asked::of), before);
    }

    /** All is as it was, but for the ROW. */
    void leavesAllButTheRow(String call, Call asked) {
        compare(call + " changes nothing but the ROW", seen(x -> {
            asked.of(x);
            x.cost();
        }), seen(TheyHearLate::cost));
    }

    private void compare(String call, List<Long> got, List<Long> want) {
        int first = 0;
        while (first < got.size() && first < want.size() && got.get(first).equals(want.get(first))) {
            first++;
        }
        boolean same = got.size() == want.size() && first == got.size();
        check.due(call + (same ? "" : " (answer " + first + " differs)"), same, true);
    }

    private List<Long> seen(Consumer<TheyHearLate> then) {
        return allOf(() -> {
            TheyHearLate x = made.get();
            then.accept(x);
            return x;
        });
    }

    /** All that can be asked of what is made so. */
    static List<Long> allOf(Supplier<TheyHearLate> made) {
        List<Long> all = new ArrayList<>();
        for (int part = 0; part < PARTS; part++) {
            ask(part, made.get(), all);
        }
        return all;
    }

    private static void ask(int part, TheyHearLate x, List<Long> all) {
        switch (part) {
            case 0:
                askWhatIsCounted(x, all);
                break;
            case 1:
                askWhatWentBy(x, all);
                break;
            case 2:
                askWhoIsThere(x, all);
                break;
            case 3:
                askWhoIsNear(x, all);
                break;
            case 4:
                askRules(x, all);
                break;
            case 5:
                askPay(x, all);
                break;
            case 6:
                askFog(x, all);
                break;
            default:
                all.add(x.again(part - 7) ? 1L : 0);
                askWhatWentBy(x, all);
        }
    }

    private static void askWhatIsCounted(TheyHearLate x, List<Long> all) {
        for (int what = 0; what <= 5; what++) {
            all.add((long) x.count(what));
        }
        addRow(x, all);
        all.add((long) x.rule(3));
        if (x.count(0) > 1) {
            all.add((long) x.does(1, 1));
        }
    }

    private static void addRow(TheyHearLate x, List<Long> all) {
        int numbers = x.count(4);
        for (int i = 0; i < numbers; i++) {
            all.add(x.row(i));
        }
    }

    /** The first minutes and the last ones: more would be more calls than one object is used for. */
    private static void askWhatWentBy(TheyHearLate x, List<Long> all) {
        int now = x.count(1);
        int people = x.count(0);
        for (int m = 0; m <= now; m++) {
            if (m < 4 || m >= now - 3) {
                all.add((long) x.place(m));
                for (int i = 0; i < people && m < now; i++) {
                    for (int what = 0; what < 4; what++) {
                        all.add((long) x.was(i, m, what));
                    }
                }
            }
        }
        all.add((long) x.crossed());
        x.begin();
        all.add((long) x.place(0));
        all.add((long) x.seed(0));
    }

    private static void askWhoIsThere(TheyHearLate x, List<Long> all) {
        for (int what = 1; what <= 3; what++) {
            all.add((long) x.beam(what, 0));
        }
        int people = x.count(0);
        for (int i = 0; i < people; i++) {
            for (int what = 0; what < 3; what++) {
                all.add((long) x.set(i, what, 0));
            }
        }
    }

    private static void askWhoIsNear(TheyHearLate x, List<Long> all) {
        int people = x.count(0);
        for (int i = 0; i < people; i++) {
            for (int j = 0; j < people; j++) {
                all.add((long) x.by(i, j, 100));
            }
        }
        for (int i = 0; i < people; i++) {
            for (int j = 0; j < i; j++) {
                x.link(0, i, j, true);
            }
        }
        for (int i = 0; i < people; i++) {
            for (int j = 0; j < people; j++) {
                all.add((long) x.soon(i, j));
                addRow(x, all);
            }
        }
    }

    private static void askRules(TheyHearLate x, List<Long> all) {
        all.add((long) x.would(20, 7));
        addRow(x, all);
        for (int i = 0; i < 12; i++) {
            all.add((long) x.rules(0, i, i, 20));
            addRow(x, all);
        }
        x.person(0, 0, 0);
        int people = x.count(0);
        for (int i = 0; i < people; i++) {
            all.add((long) x.does(i, 0));
            all.add((long) x.does(i, 1));
        }
    }

    private static void askPay(TheyHearLate x, List<Long> all) {
        all.add(x.two());
        addRow(x, all);
        for (int at = 0; at < 9; at++) {
            for (int i = 0; i < 9; i++) {
                int was = x.weight(i / 3, i % 3, i == at ? 1 : 0);
                if (at == 0) {
                    all.add((long) was);
                }
            }
            all.add(x.two());
            addRow(x, all);
        }
    }

    /** What fog brings to each one, heard of one besides in no other time. */
    private static void askFog(TheyHearLate x, List<Long> all) {
        int people = x.count(0);
        for (int i = 0; i < people; i++) {
            x.set(i, 0, 0);
            x.set(i, 2, 0);
            for (int j = 0; j < i; j++) {
                x.link(0, i, j, true);
            }
        }
        for (int i = 0; i < people; i++) {
            for (int m = 0; m < 6; m++) {
                all.add((long) x.chance(i, (i + 1) % people, m));
                addRow(x, all);
            }
        }
    }
}
