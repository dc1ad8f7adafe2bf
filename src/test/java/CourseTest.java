import java.util.ArrayList;
import java.util.HashMap;
import java.util.List;
import java.util.Map;
import java.util.Random;

/** Terms 1, a MINUTE goes by, with promises 10 to 23, 43 to 45: yards by draws, measured by a second reckoning. */
public final class CourseTest {
    private static final Check check = new Check("CourseTest");
    private static final String[] TEXTS = {"", "-x/5", "-v", "h", "h/2-a", "y-x", "(y-x)/3-v", "a+1", "t/9-3", "1", "-1",
            "x>5", "-(x>5)+(x<-5)", "h+(t=3)*8", "!h*3", "a-h|x", "-x*t", "(t/3*3=t)*7", "h-a*x/4", "9-t", "50", "-h", "x*x*x"};

    public static void main(String[] args) {
        Random random = new Random(11);
        for (int round = 0; round < 120; round++) {
            new Round(random).play();
        }
        check.end();
    }

    /** What went by, a map by names, so that nothing is shared with how the class holds it. */
    private static final class Past {
        final Map<String, Integer> noted = new HashMap<>();
        final List<Integer> places = new ArrayList<>();
        int start;
        int r;

        int now() {
            return places.size() - 1;
        }

        int note(String what, int person, int minute) {
            return noted.getOrDefault(what + person + "," + minute, 0);
        }

        int place(int minute) {
            return minute < 0 ? start : places.get(minute);
        }

        void begin() {
            noted.clear();
            places.clear();
            places.add(start);
        }

        Past copy() {
            Past copy = new Past();
            copy.noted.putAll(noted);
            copy.places.addAll(places);
            copy.start = start;
            copy.r = r;
            return copy;
        }
    }

    private static final class Round {
        /** So many calls are asked of one object at most: all it was told is some 300 calls more, and 512 are promised. */
        static final int MOST_ASKED = 150;

        final Random random;
        final List<World.Call> told = new ArrayList<>();
        TheyHearLate x = new TheyHearLate();
        int asked;
        final int[] late = new int[6];
        final int[] sight = new int[6];
        final boolean[][] near = new boolean[6][6];
        final Oracle.Expression[] rules = new Oracle.Expression[12];
        int people;
        int due;
        int down;
        int up;
        Past past = new Past();
        Past kept;
        int keptPeople;

        Round(Random random) {
            this.random = random;
            past.r = 1;
            past.begin();
        }

        private void tell(World.Call call) {
            told.add(call);
            call.of(x);
        }

        private void tell(String name, World.Call call, long want) {
            told.add(call);
            check.due(name, call.of(x), want);
        }

        /** The object, or another one that was told the same, of which so many calls more can be asked. */
        private TheyHearLate ready(int calls) {
            if (asked + calls > MOST_ASKED) {
                asked = 0;
                x = new TheyHearLate();
                for (World.Call call : told) {
                    call.of(x);
                }
            }
            asked += calls;
            return x;
        }

        void play() {
            int wide = random.nextBoolean() ? 4 : 21;
            for (int step = 0; step < 40; step++) {
                change(wide);
                if (random.nextInt(3) == 0) {
                    go(random.nextInt(random.nextInt(4) == 0 ? 120 : 12));
                    ask();
                }
            }
            go(199);
            ask();
        }

        private void change(int wide) {
            int one = people == 0 ? 0 : random.nextInt(people);
            int other = people == 0 ? 0 : random.nextInt(people);
            switch (random.nextInt(10)) {
                case 0:
                    if (people < 6) {
                        late[people] = random.nextInt(wide);
                        sight[people] = random.nextInt(wide);
                        int itsLate = late[people];
                        int itsSight = sight[people];
                        tell("person", y -> y.person(itsLate, itsSight, 0), people);
                        people++;
                    }
                    break;
                case 1:
                    if (people > 0) {
                        int itsLate = random.nextInt(wide);
                        int itsSight = random.nextInt(wide);
                        late[one] = itsLate;
                        sight[other] = itsSight;
                        tell(y -> y.set(one, 0, itsLate));
                        tell(y -> y.set(other, 1, itsSight));
                    }
                    break;
                case 2:
                case 3:
                    if (one != other) {
                        boolean is = random.nextInt(4) > 0;
                        near[one][other] = is;
                        near[other][one] = is;
                        tell(y -> y.link(0, one, other, is) ? 1 : 0);
                    }
                    break;
                case 4:
                    changeBeam();
                    break;
                case 5:
                    keepOrNot();
                    break;
                default:
                    int i = random.nextInt(12);
                    String text = TEXTS[random.nextInt(TEXTS.length)];
                    tell("rule", y -> Check.rule(y, i, text), 0);
                    rules[i] = text.isEmpty() ? null : Oracle.read(text, "tyxvha");
            }
        }

        private void changeBeam() {
            due = random.nextInt(21) - 10;
            int itsDue = due;
            tell(y -> y.beam(1, itsDue));
            tell(y -> y.beam(2, 0));
            tell(y -> y.beam(3, 0));
            down = random.nextInt(4) == 0 ? 0 : random.nextInt(11);
            up = random.nextInt(11 - down);
            int itsDown = down;
            int itsUp = up;
            tell(y -> y.beam(2, itsDown));
            tell(y -> y.beam(3, itsUp));
            if (random.nextInt(3) == 0) {
                int seed = random.nextInt();
                tell("seed", y -> y.seed(seed), past.r);
                past.r = seed;
            }
        }

        private void keepOrNot() {
            if (random.nextBoolean()) {
                tell("keep", y -> y.keep(1) ? 1 : 0, 1);
                kept = past.copy();
                keptPeople = people;
            } else if (kept != null && random.nextBoolean()) {
                tell("again", y -> y.again(1) ? 1 : 0, keptPeople == people ? 1 : 0);
                past = keptPeople == people ? kept.copy() : past;
            } else {
                tell(y -> y.begin() ? 1 : 0);
                past.begin();
                int start = random.nextInt(10) == 0 ? random.nextInt(1999) - 999 : random.nextInt(61) - 30;
                tell("start", y -> y.beam(0, start), past.start);
                past.start = start;
                past.begin();
            }
        }

        private int value(Past p, int rule, int person, int most) {
            int t = p.now();
            int seen = p.place(t - sight[person]);
            int ahead = p.place(t - sight[person] - 1);
            if (rules[rule] == null) {
                return 0;
            }
            int v = rules[rule].value(t, due, seen, seen - ahead, heard(p, person), p.note("did", person, t - 1));
            return Math.max(-most, Math.min(most, v));
        }

        private int heard(Past p, int person) {
            int sum = 0;
            for (int other = 0; other < people; other++) {
                sum += near[person][other] ? p.note("said", other, p.now() - Math.max(1, late[person])) : 0;
            }
            return sum;
        }

        /** A minute goes by, in which each one does by the rule told for it. */
        private void minute(Past p, int[] doing) {
            int t = p.now();
            int place = p.place(t);
            Map<String, Integer> fresh = new HashMap<>();
            for (int i = 0; i < people; i++) {
                int done = value(p, doing[i], i, 9);
                fresh.put("did" + i + "," + t, done);
                fresh.put("said" + i + "," + t, value(p, 2 * i + 1, i, 99));
                fresh.put("heard" + i + "," + t, heard(p, i));
                fresh.put("saw" + i + "," + t, p.place(t - sight[i]));
                place += done;
            }
            if (down + up > 0) {
                p.r = p.r * 1103515245 + 12345;
                long drawn = (p.r & 0xffffffffL) / 65536 % 10;
                place += drawn < down ? -1 : drawn >= 10 - up ? 1 : 0;
            }
            p.noted.putAll(fresh);
            p.places.add(Math.max(-999, Math.min(999, place)));
        }

        private int[] own() {
            return new int[] {0, 2, 4, 6, 8, 10};
        }

        private void go(int n) {
            for (int i = 0; i < n && past.now() < 199; i++) {
                minute(past, own());
            }
            tell("go(" + n + ")", y -> y.go(n), past.place(past.now()));
        }

        private void ask() {
            check.due("now", ready(1).count(1), past.now());
            for (int m = 0; m <= past.now(); m++) {
                check.due("place(" + m + ")", ready(1).place(m), past.place(m));
            }
            String[] whats = {"did", "said", "heard", "saw"};
            for (int person = 0; person < people; person++) {
                for (int m = 0; m < past.now(); m++) {
                    for (int what = 0; what < 4; what++) {
                        int want = past.note(whats[what], person, m);
                        check.due("was(" + person + ", " + m + ", " + what + ")", ready(1).was(person, m, what), want);
                    }
                }
                check.due("does", ready(1).does(person, 0), value(past, 2 * person, person, 9));
                check.due("says", ready(1).does(person, 1), value(past, 2 * person + 1, person, 99));
                askEcho(person);
                askWaits(person);
            }
            askCost();
            askSwings();
            askCrossed();
            askWould();
        }

        private void askCost() {
            int sum = 0;
            int most = 0;
            int first = -1;
            for (int m = 0; m <= past.now(); m++) {
                int off = Math.abs(past.place(m) - due);
                sum += m == 0 ? 0 : off;
                most = Math.max(most, off);
                first = off != 0 ? -1 : first < 0 ? m : first;
            }
            check.due("cost", ready(8).cost(), sum);
            check.row("cost", x, first, most);
        }

        private void askSwings() {
            int turns = 0;
            int[] most = new int[2];
            List<Integer> sides = new ArrayList<>();
            for (int m = 0; m <= past.now(); m++) {
                int off = past.place(m) - due;
                int half = m <= past.now() / 2 ? 0 : 1;
                most[half] = Math.max(most[half], Math.abs(off));
                if (off != 0) {
                    sides.add(off > 0 ? 1 : 0);
                }
            }
            for (int i = 1; i < sides.size(); i++) {
                turns += sides.get(i).equals(sides.get(i - 1)) ? 0 : 1;
            }
            check.due("swings", ready(8).swings(), turns);
            check.row("swings", x, most[0], most[1]);
        }

        private void askCrossed() {
            int pairs = 0;
            for (int one = 0; one < people; one++) {
                for (int other = 0; other < people; other++) {
                    for (int m = 0; near[one][other] && m < past.now(); m++) {
                        for (int later = m; later < past.now(); later++) {
                            boolean soon = later == m ? one < other : later - m < Math.max(1, late[other]);
                            boolean both = past.note("said", one, m) != 0 && past.note("said", other, later) != 0;
                            pairs += soon && both ? 1 : 0;
                        }
                    }
                }
            }
            check.due("crossed", ready(8).crossed(), pairs);
        }

        private void askEcho(int person) {
            StringBuilder marks = new StringBuilder();
            for (int m = 0; m < past.now(); m++) {
                int said = past.note("said", person, m);
                marks.append(said != 0 && said == past.note("heard", person, m) ? 'x' : ' ');
            }
            check.due("echo", ready(8).echo(person), marks.toString().replace(" ", "").length());
            check.row("echo", x, longest(marks));
        }

        private void askWaits(int person) {
            StringBuilder marks = new StringBuilder();
            int against = 0;
            for (int m = 0; m < past.now(); m++) {
                int all = 0;
                for (int i = 0; i < people; i++) {
                    all += past.note("did", i, m);
                }
                int did = past.note("did", person, m);
                marks.append(did == 0 ? 'x' : ' ');
                against += did > 0 && all < 0 || did < 0 && all > 0 ? 1 : 0;
            }
            check.due("waits", ready(8).waits(person), marks.toString().replace(" ", "").length());
            check.row("waits", x, longest(marks), against);
        }

        private int longest(StringBuilder marks) {
            int most = 0;
            for (String run : marks.toString().split(" ")) {
                most = Math.max(most, run.length());
            }
            return most;
        }

        private Past tried(int n, int seed, int[] doing) {
            Past p = new Past();
            p.start = past.start;
            p.r = seed;
            p.begin();
            for (int i = 0; i < n; i++) {
                minute(p, doing);
            }
            return p;
        }

        private int cost(Past p) {
            int sum = 0;
            for (int m = 1; m <= p.now(); m++) {
                sum += Math.abs(p.place(m) - due);
            }
            return sum;
        }

        private void askWould() {
            int n = 1 + random.nextInt(random.nextInt(3) == 0 ? 199 : 12);
            int seed = random.nextInt();
            Past p = tried(n, seed, own());
            check.due("would", ready(8).would(n, seed), cost(p));
            check.row("would", x, p.place(n));
            n = 1 + random.nextInt(12);
            if (people > 0) {
                askRules(random.nextInt(people), random.nextInt(12), n);
            }
            if (people > 1) {
                int one = random.nextInt(people);
                askPair(one, (one + 1 + random.nextInt(people - 1)) % people, n);
            }
        }

        private void askRules(int person, int from, int n) {
            int to = from + random.nextInt(12 - from);
            int best = -2;
            int least = Integer.MAX_VALUE;
            for (int i = from; i <= to; i++) {
                if (i % 2 == 0 && rules[i] != null) {
                    int[] doing = own();
                    doing[person] = i;
                    int cost = cost(tried(n, 1, doing));
                    best = cost < least ? i : best;
                    least = Math.min(least, cost);
                }
            }
            check.due("rules", ready(8).rules(person, from, to, n), best);
            if (best >= 0) {
                check.row("rules", x, least);
            }
        }

        private void askPair(int one, int other, int n) {
            int least = -2;
            long[] row = {};
            for (int i = 0; i < 12; i += 2) {
                for (int j = 0; j < 12; j += 2) {
                    if (rules[i] != null && rules[j] != null) {
                        int[] doing = own();
                        doing[one] = i;
                        doing[other] = j;
                        int cost = cost(tried(n, 1, doing));
                        if (least == -2 || cost < least) {
                            least = cost;
                            row = new long[] {i, j};
                        }
                    }
                }
            }
            check.due("pair", ready(8).pair(one, other, n), least);
            if (least != -2) {
                check.row("pair", x, row);
            }
        }
    }
}
