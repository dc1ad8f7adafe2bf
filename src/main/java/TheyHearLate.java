import java.util.NoSuchElementException;

/**
 * People round a beam, each of whom hears what is said, and sees where the beam is, some minutes late.
 * The promises behind the calls stand in the document, DOC.md; README.md tells how to use the class.
 */
public final class TheyHearLate {
    public static final int NONE = -1;

    private static final int NEVER = -2;
    private static final int MISSING = -3;
    private static final int NO_SUCH_RULE = -100;
    private static final int ENDLESS_WORDS = 99;

    private static final int MOST_PEOPLE = 6;
    private static final int MOST_RULES = 12;
    private static final int LAST_MINUTE = 199;
    private static final int MOST_KEPT = 3;

    private static final int MOST_LATE = 20;
    private static final int MOST_SIGHT = 20;
    private static final int MOST_THINKS = 9;
    private static final int MOST_PLACE = 999;
    private static final int MOST_DUE = 99;
    private static final int MOST_DONE = 9;
    private static final int MOST_SAID = 99;

    private final Yard yard = new Yard();
    private final Course course = new Course();
    private final Course trial = new Course();
    private final Course[] kept = new Course[MOST_KEPT];
    private final Reader reader = new Reader();
    private final Told told = new Told();
    private final Words words = new Words();
    private final Helm helm = new Helm();
    private final Sway sway = new Sway();
    private final Match match = new Match();

    public TheyHearLate() {
    }

    // ---- the yard

    public int person(int late, int sight, int thinks) {
        if (yard.size >= MOST_PEOPLE || !isWithin(late, 0, MOST_LATE)
                || !isWithin(sight, 0, MOST_SIGHT) || !isWithin(thinks, 0, MOST_THINKS)) {
            return NONE;
        }
        Person one = yard.people[yard.size];
        one.late = late;
        one.sight = sight;
        one.thinks = thinks;
        yard.size++;
        return yard.size - 1;
    }

    public int set(int person, int what, int v) {
        if (!yard.has(person)) {
            return NONE;
        }
        Person one = yard.people[person];
        int was;
        if (what == 0 && isWithin(v, 0, MOST_LATE)) {
            was = one.late;
            one.late = v;
        } else if (what == 1 && isWithin(v, 0, MOST_SIGHT)) {
            was = one.sight;
            one.sight = v;
        } else if (what == 2 && isWithin(v, 0, MOST_THINKS)) {
            was = one.thinks;
            one.thinks = v;
        } else {
            was = NONE;
        }
        return was;
    }

    public boolean link(int what, int one, int other, boolean is) {
        if (!yard.hasTwo(one, other) || what < 0 || what > 1) {
            return false;
        }
        Person first = yard.people[one];
        Person second = yard.people[other];
        if (what == 0) {
            first.near = withBit(first.near, other, is);
            second.near = withBit(second.near, one, is);
        } else {
            first.sees = withBit(first.sees, other, is);
        }
        return true;
    }

    public int beam(int what, int v) {
        int was = NONE;
        if (what == 0 && course.now == 0 && isWithin(v, -MOST_PLACE, MOST_PLACE)) {
            was = course.start;
            course.start = v;
            course.restart();
        } else if (what == 1 && isWithin(v, -MOST_DUE, MOST_DUE)) {
            was = yard.due;
            yard.due = v;
        } else if (what == 2 && isWithin(v, 0, 10 - yard.up)) {
            was = yard.down;
            yard.down = v;
        } else if (what == 3 && isWithin(v, 0, 10 - yard.down)) {
            was = yard.up;
            yard.up = v;
        }
        return was;
    }

    public int sheet(int kind, int n, int f, int step) {
        if (kind < 0 || kind > 3 || n > MOST_PEOPLE) {
            return NONE;
        }
        boolean missing = kind == 3;
        if (!missing && n < 0) {
            return NEVER;
        }
        int sum = 0;
        for (int i = 0; i < yard.size; i++) {
            int late = missing || i >= n ? 0 : sheetEntry(kind, f + i * step);
            yard.people[i].late = late;
            sum += late;
        }
        return missing ? MISSING : sum;
    }

    public int sign(int v) {
        return reader.addFour(v) ? reader.length : NONE;
    }

    public boolean end(int n) {
        if (n < 0 || n > reader.length) {
            return false;
        }
        reader.length = n;
        return true;
    }

    public int rule(int i) {
        int answer = NO_SUCH_RULE;
        if (i >= 0 && i < MOST_RULES) {
            answer = reader.read("tyxvha", yard.formulas[i]);
        }
        reader.length = 0;
        return answer;
    }

    public int does(int person, int what) throws NoSuchElementException {
        if (!yard.has(person) || what < 0 || what > 1) {
            throw new NoSuchElementException();
        }
        yard.look(course, person);
        return what == 0 ? yard.deed(person) : yard.speech(person);
    }

    // ---- minutes

    public int go(int n) throws NoSuchElementException {
        if (!isWithin(n, 0, LAST_MINUTE)) {
            throw new NoSuchElementException();
        }
        yard.pass(course, n);
        return course.placeAt(course.now);
    }

    public boolean begin() {
        course.restart();
        return true;
    }

    public int place(int minute) throws NoSuchElementException {
        if (!isWithin(minute, 0, course.now)) {
            throw new NoSuchElementException();
        }
        return course.placeAt(minute);
    }

    public int was(int person, int minute, int what) throws NoSuchElementException {
        if (!yard.has(person) || !isWithin(minute, 0, course.now - 1) || what < 0 || what > 3) {
            throw new NoSuchElementException();
        }
        int[] notes = course.said;
        if (what == 0) {
            notes = course.did;
        } else if (what == 2) {
            notes = course.heard;
        } else if (what == 3) {
            notes = course.saw;
        }
        return course.noted(notes, person, minute);
    }

    public int cost() {
        told.tellTwo(course.settledFrom(yard.due), course.widest(0, course.now, yard.due));
        return course.costTo(yard.due);
    }

    public int crossed() {
        int pairs = 0;
        for (int one = 0; one < yard.size; one++) {
            for (int other = one + 1; other < yard.size; other++) {
                if (yard.isNear(one, other)) {
                    pairs += sameMinute(one, other) + saidTooSoon(one, other) + saidTooSoon(other, one);
                }
            }
        }
        return pairs;
    }

    public int by(int one, int other, int minute) {
        if (!yard.hasTwo(one, other) || !isWithin(minute, 0, LAST_MINUTE)) {
            return NONE;
        }
        int said = minute - yard.people[other].hearsAfter();
        return said < 0 || !yard.isNear(one, other) ? NEVER : said;
    }

    public int would(int n, int seed) {
        if (!isWithin(n, 1, LAST_MINUTE)) {
            return NONE;
        }
        int cost = tryOut(n, seed);
        told.tellOne(trial.placeAt(trial.now));
        return cost;
    }

    public int rules(int person, int from, int to, int n) {
        if (!yard.has(person) || from < 0 || to >= MOST_RULES || from > to || !isWithin(n, 1, LAST_MINUTE)) {
            return NONE;
        }
        int best = NEVER;
        int least = 0;
        for (int i = from; i <= to; i++) {
            if (yard.isDeed(i)) {
                yard.doing[person] = i;
                int cost = tryOut(n, 1);
                if (best == NEVER || cost < least) {
                    best = i;
                    least = cost;
                }
            }
        }
        yard.doing[person] = 2 * person;
        if (best != NEVER) {
            told.tellOne(least);
        }
        return best;
    }

    public int pair(int one, int other, int n) {
        if (!yard.hasTwo(one, other) || !isWithin(n, 1, LAST_MINUTE)) {
            return NONE;
        }
        int least = NEVER;
        for (int i = 0; i < MOST_RULES; i += 2) {
            for (int j = 0; j < MOST_RULES; j += 2) {
                if (yard.isDeed(i) && yard.isDeed(j)) {
                    yard.doing[one] = i;
                    yard.doing[other] = j;
                    int cost = tryOut(n, 1);
                    if (least == NEVER || cost < least) {
                        least = cost;
                        told.tellTwo(i, j);
                    }
                }
            }
        }
        yard.doing[one] = 2 * one;
        yard.doing[other] = 2 * other;
        return least;
    }

    public int echo(int person) {
        if (!yard.has(person)) {
            return NONE;
        }
        int all = 0;
        int most = 0;
        int run = 0;
        for (int m = 0; m < course.now; m++) {
            int said = course.noted(course.said, person, m);
            boolean echoed = said != 0 && said == course.noted(course.heard, person, m);
            run = echoed ? run + 1 : 0;
            all += echoed ? 1 : 0;
            most = Math.max(most, run);
        }
        told.tellOne(most);
        return all;
    }

    public int waits(int person) {
        if (!yard.has(person)) {
            return NONE;
        }
        int all = 0;
        int most = 0;
        int run = 0;
        int against = 0;
        for (int m = 0; m < course.now; m++) {
            int did = course.noted(course.did, person, m);
            run = did == 0 ? run + 1 : 0;
            all += did == 0 ? 1 : 0;
            most = Math.max(most, run);
            against += Integer.signum(did) * Integer.signum(doneByAll(m)) < 0 ? 1 : 0;
        }
        told.tellTwo(most, against);
        return all;
    }

    public int swings() {
        int half = course.now / 2;
        told.tellTwo(course.widest(0, half, yard.due), course.widest(half + 1, course.now, yard.due));
        return course.turnsRound(yard.due);
    }

    // ---- steering by late sight

    public int steer(int late, int from, int n, int most) {
        if (!canSteer(late, from, n, most)) {
            return NONE;
        }
        long least = helm.leastCost(yard, late, from, n, most);
        told.tellTwo(least, helm.first);
        return 0;
    }

    public int blind(int late, int from, int n, int most) {
        if (!canSteer(late, from, n, most)) {
            return NONE;
        }
        long lately = helm.leastCost(yard, late, from, n, most);
        long atOnce = helm.leastCost(yard, 0, from, n, most);
        told.tellFraction(lately - atOnce * powerOfTen(late), powerOfTen(late + n));
        return 0;
    }

    // ---- pulls of a part

    public int pull(int late, int k, int x, int n) {
        if (!isWithin(late, 0, MOST_LATE) || !isWithin(k, 1, 20) || !isWithin(x, 1, MOST_PLACE)
                || !isWithin(n, 2, LAST_MINUTE)) {
            return NONE;
        }
        sway.swing(late, k, x, n);
        int half = n / 2;
        told.tellThree(sway.widest(0, half - 1), sway.turns(), sway.calmFrom());
        return sway.widest(half, n);
    }

    public int edge(int late) {
        if (!isWithin(late, 0, MOST_LATE)) {
            return NONE;
        }
        for (int k = 1; k <= 20; k++) {
            sway.swing(late, k, 100, LAST_MINUTE);
            if (sway.widest(LAST_MINUTE / 2, LAST_MINUTE) > 100) {
                return k;
            }
        }
        return NEVER;
    }

    public int gentle(int late, int x) {
        if (!isWithin(late, 0, MOST_LATE) || !isWithin(x, 1, MOST_PLACE)) {
            return NONE;
        }
        int best = NEVER;
        int soonest = LAST_MINUTE + 1;
        for (int k = 1; k <= 20; k++) {
            sway.swing(late, k, x, LAST_MINUTE);
            int calm = sway.calmFrom();
            if (calm != NONE && calm < soonest) {
                best = k;
                soonest = calm;
            }
        }
        if (best != NEVER) {
            told.tellOne(soonest);
        }
        return best;
    }

    // ---- two who each see their end

    public int weight(int i, int j, int v) {
        if (!isWithin(i, 0, 2) || !isWithin(j, 0, 2) || !isWithin(v, 0, 99)) {
            return NONE;
        }
        int was = match.weights[i * 3 + j];
        match.weights[i * 3 + j] = v;
        return was;
    }

    public int pays() {
        int answer = reader.read("ijab", match.pay);
        reader.length = 0;
        if (answer == 0) {
            match.tabulate();
        }
        return answer;
    }

    public long two() {
        long most = match.playBest();
        told.clear();
        for (int i = 0; i < 3; i++) {
            told.add(match.bestOne[i]);
        }
        for (int j = 0; j < 3; j++) {
            told.add(match.bestOther[j]);
        }
        return most;
    }

    public int stand(int one, int other) {
        if (!isRuleNumber(one) || !isRuleNumber(other)) {
            return NONE;
        }
        int changed = match.playByTurns(one, other);
        told.tellThree(Match.ruleNumber(match.one), Match.ruleNumber(match.other), match.sum());
        return changed;
    }

    public long gap() {
        long most = match.playBest();
        match.playByTurns(0, 0);
        told.tellOne(match.mostSeeingBoth());
        return most - match.sum();
    }

    // ---- asked, answered

    public int says(int one, int other) {
        if (!yard.hasTwo(one, other)) {
            return NONE;
        }
        int minutes = words.minutes(yard, one, other);
        if (minutes != NEVER) {
            words.findWay(yard, one);
            told.clear();
            for (int i = 0; i < words.passing; i++) {
                told.add(words.way[i]);
            }
        }
        return minutes;
    }

    public int soon(int one, int other) {
        if (!yard.hasTwo(one, other)) {
            return NONE;
        }
        int asked = words.minutes(yard, one, other);
        int back = words.minutes(yard, other, one);
        boolean nod = yard.isSeen(one, other);
        if (asked == NEVER || (!nod && back == NEVER)) {
            return NEVER;
        }
        told.tellOne(nod ? 1 : 0);
        return asked + yard.people[other].thinks + (nod ? 0 : back);
    }

    public int know(int one, int other, int m) {
        if (!yard.hasTwo(one, other) || !isWithin(m, 0, LAST_MINUTE)) {
            return NONE;
        }
        if (yard.isSeen(one, other) && yard.isSeen(other, one)) {
            return ENDLESS_WORDS;
        }
        int there = words.minutes(yard, one, other);
        int back = words.minutes(yard, other, one);
        if (there == NEVER || back == NEVER) {
            return 0;
        }
        int time = there;
        int come = 0;
        while (come < ENDLESS_WORDS && time <= m) {
            come++;
            boolean answers = come % 2 == 1;
            time += answers ? yard.people[other].thinks + back : yard.people[one].thinks + there;
        }
        return come;
    }

    public int crier() {
        if (yard.size < 2) {
            return NONE;
        }
        int best = NEVER;
        int soonest = 0;
        for (int one = 0; one < yard.size; one++) {
            int last = heardByAll(one);
            if (last != NEVER && (best == NEVER || last < soonest)) {
                best = one;
                soonest = last;
            }
        }
        if (best != NEVER) {
            told.tellOne(soonest);
        }
        return best;
    }

    public int deaf(int person) {
        if (!yard.has(person)) {
            return NONE;
        }
        int bits = 0;
        for (int other = 0; other < yard.size; other++) {
            if (other != person && words.minutes(yard, other, person) == NEVER) {
                bits = withBit(bits, other, true);
            }
        }
        return bits;
    }

    // ---- warnings, fog

    public int warn(int one, int other, int way, int speed, int brake) {
        if (!yard.hasTwo(one, other) || !isWithin(way, 1, 9999)
                || !isWithin(speed, 1, 99) || !isWithin(brake, 1, 99)) {
            return NONE;
        }
        int heard = words.minutes(yard, other, one);
        if (heard == NEVER) {
            return NEVER;
        }
        int room = way - 1;
        for (int i = 1; i <= speed && i * brake < speed; i++) {
            room -= speed - i * brake;
        }
        if (room < 0) {
            return NEVER;
        }
        int said = room / speed - heard - yard.people[one].thinks;
        return said < 0 ? NEVER : said;
    }

    public boolean fog(int person, int a, int b, int c) {
        if (!yard.has(person) || !isWithin(a, 0, 10) || !isWithin(b, 0, 10) || !isWithin(c, 0, 10)
                || a + b + c > 10) {
            return false;
        }
        int[] more = yard.people[person].more;
        more[0] = a;
        more[1] = b;
        more[2] = c;
        more[3] = 10 - a - b - c;
        return true;
    }

    public int chance(int one, int other, int m) {
        if (!yard.hasTwo(one, other) || !isWithin(m, 0, LAST_MINUTE)) {
            return NONE;
        }
        if (!yard.isNear(one, other)) {
            return NEVER;
        }
        told.tellFraction(answeredOfHundred(one, other, m), 100);
        return 0;
    }

    public int sure(int one, int other, int power) {
        if (!yard.hasTwo(one, other) || !isWithin(power, 1, 100)) {
            return NONE;
        }
        if (!yard.isNear(one, other)) {
            return NEVER;
        }
        int m = 0;
        while (m < LAST_MINUTE && answeredOfHundred(one, other, m) < power) {
            m++;
        }
        return m;
    }

    // ---- kept

    public int seed(int v) {
        int was = course.draws;
        course.draws = v;
        return was;
    }

    public boolean keep(int i) {
        if (i < 0 || i >= MOST_KEPT) {
            return false;
        }
        if (kept[i] == null) {
            kept[i] = new Course();
        }
        kept[i].copy(course);
        kept[i].people = yard.size;
        return true;
    }

    public boolean again(int i) {
        if (i < 0 || i >= MOST_KEPT || kept[i] == null || kept[i].people != yard.size) {
            return false;
        }
        course.copy(kept[i]);
        return true;
    }

    public int count(int what) {
        switch (what) {
            case 0:
                return yard.size;
            case 1:
                return course.now;
            case 2:
                return yard.toldRules();
            case 3:
                return yard.due;
            case 4:
                return told.size;
            case 5:
                return reader.length;
            default:
                return NONE;
        }
    }

    public long row(int i) throws NoSuchElementException {
        if (i < 0 || i >= told.size) {
            throw new NoSuchElementException();
        }
        return told.numbers[i];
    }

    // ---- what several calls need

    private static boolean isWithin(int v, int least, int most) {
        return v >= least && v <= most;
    }

    private static int putTo(int v, int most) {
        return v < -most ? -most : v > most ? most : v;
    }

    private static int withBit(int bits, int i, boolean is) {
        return is ? bits | 1 << i : bits & ~(1 << i);
    }

    private static boolean hasBit(int bits, int i) {
        return (bits >> i & 1) != 0;
    }

    private static long powerOfTen(int n) {
        long power = 1;
        for (int i = 0; i < n; i++) {
            power *= 10;
        }
        return power;
    }

    private static int sheetEntry(int kind, int v) {
        int entry = v;
        if (kind == 0) {
            entry = (byte) v;
        } else if (kind == 1) {
            entry = (short) v;
        }
        return entry < 0 ? 0 : entry > MOST_LATE ? MOST_LATE : entry;
    }

    private static boolean canSteer(int late, int from, int n, int most) {
        return isWithin(late, 0, Helm.MOST_UNSEEN) && isWithin(from, -50, 50)
                && isWithin(n, 1, Helm.MOST_STEPS) && isWithin(most, 1, Helm.MOST_PUSH);
    }

    private static boolean isRuleNumber(int number) {
        return isWithin(number, 0, 222) && number % 10 <= 2 && number / 10 % 10 <= 2;
    }

    /** Runs the first n minutes anew beside the course that stands, with draws from a seed: their cost. */
    private int tryOut(int n, int seed) {
        trial.start = course.start;
        trial.draws = seed;
        trial.restart();
        yard.pass(trial, n);
        return trial.costTo(yard.due);
    }

    private int doneByAll(int minute) {
        int sum = 0;
        for (int i = 0; i < yard.size; i++) {
            sum += course.noted(course.did, i, minute);
        }
        return sum;
    }

    private int sameMinute(int one, int other) {
        int both = 0;
        for (int m = 0; m < course.now; m++) {
            both += course.spoke(one, m) && course.spoke(other, m) ? 1 : 0;
        }
        return both;
    }

    /** Words of the other one in later minutes than a word of the one, but before that could be heard. */
    private int saidTooSoon(int one, int other) {
        int after = yard.people[other].hearsAfter();
        int crossing = 0;
        for (int m = 0; m < course.now; m++) {
            if (course.spoke(one, m)) {
                for (int later = m + 1; later < m + after && later < course.now; later++) {
                    crossing += course.spoke(other, later) ? 1 : 0;
                }
            }
        }
        return crossing;
    }

    private int heardByAll(int one) {
        int last = 0;
        for (int other = 0; other < yard.size; other++) {
            if (other != one) {
                int minutes = words.minutes(yard, one, other);
                if (minutes == NEVER) {
                    return NEVER;
                }
                last = Math.max(last, minutes);
            }
        }
        return last;
    }

    private int answeredOfHundred(int one, int other, int m) {
        Person asking = yard.people[one];
        Person asked = yard.people[other];
        int soonest = asked.late + asked.thinks + asking.late;
        int cases = 0;
        for (int i = 0; i < 4; i++) {
            for (int j = 0; j < 4; j++) {
                if (soonest + i + j <= m) {
                    cases += asked.more[i] * asking.more[j];
                }
            }
        }
        return cases;
    }

    /** The numbers that a call told last. */
    private static final class Told {
        final long[] numbers = new long[6];
        int size;

        void clear() {
            size = 0;
        }

        void add(long number) {
            if (size < numbers.length) {
                numbers[size] = number;
                size++;
            }
        }

        void tellOne(long a) {
            clear();
            add(a);
        }

        void tellTwo(long a, long b) {
            tellOne(a);
            add(b);
        }

        void tellThree(long a, long b, long c) {
            tellTwo(a, b);
            add(c);
        }

        void tellFraction(long upper, long lower) {
            long a = Math.abs(upper);
            long b = Math.abs(lower);
            for (int i = 0; i < 1000 && b != 0; i++) {
                long rest = a % b;
                a = b;
                b = rest;
            }
            if (a == 0) {
                tellTwo(upper, lower);
            } else {
                tellTwo(upper / a, lower / a);
            }
        }
    }

    /** One who hears and sees late. */
    private static final class Person {
        int late;
        int sight;
        int thinks;
        int near;
        int sees;
        /** Cases of ten in which it hears 0 .. 3 minutes more than late. */
        final int[] more = {10, 0, 0, 0};

        /** What is said is never heard in the very minute in which it is said. */
        int hearsAfter() {
            return late < 1 ? 1 : late;
        }
    }

    /** The people with their rules, and what holds for the beam. */
    private static final class Yard {
        final Person[] people = new Person[MOST_PEOPLE];
        int size;
        final Formula[] formulas = new Formula[MOST_RULES];
        /** By which rule each one does; only while rules are tried out by another one's. */
        final int[] doing = new int[MOST_PEOPLE];
        int due;
        int down;
        int up;
        /** What one looks at: the minute, where it is due, what is seen, its way, what is heard, what was done. */
        final int[] seen = new int[6];

        Yard() {
            for (int i = 0; i < MOST_PEOPLE; i++) {
                people[i] = new Person();
                doing[i] = 2 * i;
            }
            for (int i = 0; i < MOST_RULES; i++) {
                formulas[i] = new Formula();
            }
        }

        boolean has(int person) {
            return person >= 0 && person < size;
        }

        boolean hasTwo(int one, int other) {
            return has(one) && has(other) && one != other;
        }

        boolean isNear(int one, int other) {
            return hasTwo(one, other) && hasBit(people[one].near, other);
        }

        /** Whether the first one sees the other one. */
        boolean isSeen(int one, int other) {
            return hasTwo(one, other) && hasBit(people[one].sees, other);
        }

        boolean isDeed(int i) {
            return i >= 0 && i < MOST_RULES && i % 2 == 0 && formulas[i].size > 0;
        }

        int toldRules() {
            int bits = 0;
            for (int i = 0; i < MOST_RULES; i++) {
                bits = withBit(bits, i, formulas[i].size > 0);
            }
            return bits;
        }

        void look(Course course, int person) {
            if (!has(person)) {
                return;
            }
            int now = course.now;
            int then = now - people[person].sight;
            seen[0] = now;
            seen[1] = due;
            seen[2] = course.placeAt(then);
            seen[3] = course.placeAt(then) - course.placeAt(then - 1);
            seen[4] = hears(course, person);
            seen[5] = course.noted(course.did, person, now - 1);
        }

        int hears(Course course, int person) {
            int said = course.now - people[person].hearsAfter();
            int sum = 0;
            for (int other = 0; other < size; other++) {
                if (hasBit(people[person].near, other)) {
                    sum += course.noted(course.said, other, said);
                }
            }
            return sum;
        }

        int deed(int person) {
            int i = has(person) ? doing[person] : NONE;
            return i < 0 || i >= MOST_RULES ? 0 : putTo(formulas[i].value(seen), MOST_DONE);
        }

        int speech(int person) {
            int i = 2 * person + 1;
            return i < 0 || i >= MOST_RULES ? 0 : putTo(formulas[i].value(seen), MOST_SAID);
        }

        void pass(Course course, int n) {
            for (int i = 0; i < n && course.now < LAST_MINUTE; i++) {
                int all = 0;
                for (int person = 0; person < size; person++) {
                    look(course, person);
                    int done = deed(person);
                    all += done;
                    course.note(person, done, speech(person), seen[4], seen[2]);
                }
                course.move(all + wind(course));
            }
        }

        int wind(Course course) {
            if (down == 0 && up == 0) {
                return 0;
            }
            int drawn = course.drawOfTen();
            return drawn < down ? -1 : drawn >= 10 - up ? 1 : 0;
        }
    }

    /** What went by, minute by minute. */
    private static final class Course {
        static final int MINUTES = LAST_MINUTE + 1;

        int now;
        int start;
        int draws = 1;
        int people;
        final int[] places = new int[MINUTES];
        final int[] did = new int[MOST_PEOPLE * MINUTES];
        final int[] said = new int[MOST_PEOPLE * MINUTES];
        final int[] heard = new int[MOST_PEOPLE * MINUTES];
        final int[] saw = new int[MOST_PEOPLE * MINUTES];

        void restart() {
            now = 0;
            places[0] = start;
        }

        void copy(Course from) {
            now = from.now;
            start = from.start;
            draws = from.draws;
            people = from.people;
            System.arraycopy(from.places, 0, places, 0, places.length);
            System.arraycopy(from.did, 0, did, 0, did.length);
            System.arraycopy(from.said, 0, said, 0, said.length);
            System.arraycopy(from.heard, 0, heard, 0, heard.length);
            System.arraycopy(from.saw, 0, saw, 0, saw.length);
        }

        int placeAt(int minute) {
            return minute < 0 || minute > LAST_MINUTE ? start : places[minute];
        }

        int noted(int[] notes, int person, int minute) {
            int at = person * MINUTES + minute;
            return minute < 0 || minute > LAST_MINUTE || at < 0 || at >= notes.length ? 0 : notes[at];
        }

        boolean spoke(int person, int minute) {
            return noted(said, person, minute) != 0;
        }

        void note(int person, int done, int words, int listened, int looked) {
            int at = person * MINUTES + now;
            if (at >= 0 && at < did.length) {
                did[at] = done;
                said[at] = words;
                heard[at] = listened;
                saw[at] = looked;
            }
        }

        void move(int by) {
            if (now >= 0 && now < LAST_MINUTE) {
                places[now + 1] = putTo(places[now] + by, MOST_PLACE);
                now++;
            }
        }

        int drawOfTen() {
            draws = draws * 1103515245 + 12345;
            return (draws >>> 16) % 10;
        }

        int off(int minute, int due) {
            return Math.abs(placeAt(minute) - due);
        }

        int costTo(int due) {
            int sum = 0;
            for (int m = 1; m <= now; m++) {
                sum += off(m, due);
            }
            return sum;
        }

        int settledFrom(int due) {
            int from = NONE;
            for (int m = now; m >= 0 && placeAt(m) == due; m--) {
                from = m;
            }
            return from;
        }

        int widest(int from, int to, int due) {
            int most = 0;
            for (int m = from; m <= to; m++) {
                most = Math.max(most, off(m, due));
            }
            return most;
        }

        int turnsRound(int due) {
            int turns = 0;
            int side = 0;
            for (int m = 0; m <= now; m++) {
                int here = Integer.signum(placeAt(m) - due);
                turns += here * side < 0 ? 1 : 0;
                side = here == 0 ? side : here;
            }
            return turns;
        }
    }

    /** An expression, its things ahead of what is done with them, so that one pass over it tells its value. */
    private static final class Formula {
        static final int MOST_CODES = 40;
        static final int SIGN = 1000;
        static final int DEED = 2000;
        static final int NEGATE = DEED + 'n';
        static final int NOT = DEED + '!';

        final int[] codes = new int[MOST_CODES];
        int size;
        final int[] stack = new int[MOST_CODES];

        void add(int code) {
            if (size < codes.length) {
                codes[size] = code;
                size++;
            }
        }

        void copy(Formula from) {
            size = from.size;
            System.arraycopy(from.codes, 0, codes, 0, codes.length);
        }

        int value(int[] signs) {
            int top = 0;
            for (int i = 0; i < size && i < codes.length; i++) {
                int code = codes[i];
                if (code >= DEED) {
                    top = reckon(code, top);
                } else if (top < stack.length) {
                    stack[top] = thing(code, signs);
                    top++;
                }
            }
            return top == 1 ? stack[0] : 0;
        }

        private int thing(int code, int[] signs) {
            int sign = code - SIGN;
            return sign < 0 ? code : sign < signs.length ? signs[sign] : 0;
        }

        /** Does one thing with what lies uppermost: how many lie there then. */
        private int reckon(int code, int top) {
            if (top < 1 || top > stack.length) {
                return 0;
            }
            int last = stack[top - 1];
            if (code == NEGATE) {
                stack[top - 1] = -last;
                return top;
            }
            if (code == NOT) {
                stack[top - 1] = last == 0 ? 1 : 0;
                return top;
            }
            if (top < 2) {
                return 0;
            }
            stack[top - 2] = join(code - DEED, stack[top - 2], last);
            return top - 1;
        }

        private static int join(int deed, int a, int b) {
            switch (deed) {
                case '|':
                    return a != 0 || b != 0 ? 1 : 0;
                case '&':
                    return a != 0 && b != 0 ? 1 : 0;
                case '<':
                    return a < b ? 1 : 0;
                case '>':
                    return a > b ? 1 : 0;
                case '=':
                    return a == b ? 1 : 0;
                case '+':
                    return a + b;
                case '-':
                    return a - b;
                case '*':
                    return a * b;
                default:
                    return b == 0 ? 0 : a / b;
            }
        }
    }

    /** The text as it is told, and how an expression is read out of it, sign by sign. */
    private static final class Reader {
        static final int MOST_SIGNS = 60;
        static final int MOST_DEPTH = 5;
        static final int MOST_DIGITS = 3;
        static final int OPEN = Formula.DEED + '(';

        final int[] text = new int[MOST_SIGNS];
        int length;

        final Formula draft = new Formula();
        /** What waits to be done till its second thing, or its end, is read. */
        final int[] waiting = new int[Formula.MOST_CODES];
        int held;
        /** Whether two were compared already, for each depth. */
        final boolean[] compared = new boolean[MOST_DEPTH + 1];
        int depth;
        int number;
        int digits;
        boolean wantsThing;

        boolean addFour(int v) {
            if (length > MOST_SIGNS - 4) {
                return false;
            }
            for (int shift = 24; shift >= 0; shift -= 8) {
                text[length] = v >>> shift & 255;
                length++;
            }
            return true;
        }

        /** Reads the text into a formula: 0, or -1 less the place of the sign that can't stand. */
        int read(String signs, Formula into) {
            startAnew();
            if (length > 0) {
                int known = Math.min(length, Formula.MOST_CODES);
                for (int p = 0; p < known; p++) {
                    if (!take(text[p], signs)) {
                        return -1 - p;
                    }
                }
                if (length > known || wantsThing || depth > 0) {
                    return -1 - known;
                }
                finishNumber();
                finishDownTo(0);
            }
            into.copy(draft);
            return 0;
        }

        private void startAnew() {
            draft.size = 0;
            held = 0;
            depth = 0;
            digits = 0;
            compared[0] = false;
            wantsThing = true;
        }

        private boolean take(int sign, String signs) {
            if (sign >= '0' && sign <= '9') {
                return takeDigit(sign - '0');
            }
            return wantsThing ? takeAhead(sign, signs) : takeBehind(sign);
        }

        private boolean takeDigit(int digit) {
            if (wantsThing) {
                wantsThing = false;
                number = digit;
                digits = 1;
                return true;
            }
            if (digits == 0 || digits >= MOST_DIGITS) {
                return false;
            }
            number = number * 10 + digit;
            digits++;
            return true;
        }

        /** Takes a sign where a thing is to come. */
        private boolean takeAhead(int sign, String signs) {
            if (sign == '!' || sign == '-') {
                putOff(sign == '!' ? Formula.NOT : Formula.NEGATE);
                return true;
            }
            if (sign == '(') {
                return open();
            }
            int which = signs.indexOf((char) sign);
            if (which < 0) {
                return false;
            }
            draft.add(Formula.SIGN + which);
            wantsThing = false;
            return true;
        }

        /** Takes a sign behind a whole thing. */
        private boolean takeBehind(int sign) {
            if (depth < 0 || depth > MOST_DEPTH) {
                return false;
            }
            finishNumber();
            if (sign == ')') {
                return close();
            }
            int rank = rankOf(sign + Formula.DEED);
            if (rank == 0 || rank > 5 || (rank == 3 && compared[depth])) {
                return false;
            }
            if (rank <= 3) {
                compared[depth] = rank == 3;
            }
            finishDownTo(rank);
            putOff(sign + Formula.DEED);
            wantsThing = true;
            return true;
        }

        private boolean open() {
            if (depth >= MOST_DEPTH || depth < 0) {
                return false;
            }
            depth++;
            compared[depth] = false;
            putOff(OPEN);
            return true;
        }

        private boolean close() {
            if (depth == 0) {
                return false;
            }
            depth--;
            finishDownTo(1);
            held = Math.max(held - 1, 0);
            return true;
        }

        private void finishNumber() {
            if (digits > 0) {
                draft.add(number);
                digits = 0;
            }
        }

        private void putOff(int deed) {
            if (held < waiting.length) {
                waiting[held] = deed;
                held++;
            }
        }

        /** Does all that waits and binds at least so much, down to an open bracket. */
        private void finishDownTo(int rank) {
            for (int i = held - 1; i >= 0 && waiting[i] != OPEN && rankOf(waiting[i]) >= rank; i--) {
                draft.add(waiting[i]);
                held = i;
            }
        }

        private static int rankOf(int deed) {
            if (deed == Formula.NOT || deed == Formula.NEGATE) {
                return 6;
            }
            switch (deed - Formula.DEED) {
                case '|':
                    return 1;
                case '&':
                    return 2;
                case '<':
                case '>':
                case '=':
                    return 3;
                case '+':
                case '-':
                    return 4;
                case '*':
                case '/':
                    return 5;
                default:
                    return 0;
            }
        }
    }

    /** How what is said comes from one to another one, also by others who pass it on. */
    private static final class Words {
        static final int MOST_PASSING = MOST_PEOPLE - 2;
        static final int FAR = 1000000;

        /** The fewest minutes from each one to the other one, by just so many who pass it on. */
        final int[] fewest = new int[(MOST_PASSING + 1) * MOST_PEOPLE];
        final int[] way = new int[MOST_PASSING];
        int passing;

        int minutes(Yard yard, int one, int other) {
            if (!yard.hasTwo(one, other)) {
                return NEVER;
            }
            measure(yard, other);
            passing = 0;
            int least = fewest[one];
            for (int k = 1; k <= MOST_PASSING; k++) {
                if (fewest[k * MOST_PEOPLE + one] < least) {
                    least = fewest[k * MOST_PEOPLE + one];
                    passing = k;
                }
            }
            return least >= FAR ? NEVER : least;
        }

        private void measure(Yard yard, int other) {
            for (int v = 0; v < MOST_PEOPLE; v++) {
                fewest[v] = hasBit(yard.people[other].near, v) ? yard.people[other].late : FAR;
            }
            for (int k = 1; k <= MOST_PASSING; k++) {
                for (int v = 0; v < MOST_PEOPLE; v++) {
                    int least = FAR;
                    for (int next = 0; next < MOST_PEOPLE; next++) {
                        least = Math.min(least, minutesBy(yard, v, next, k));
                    }
                    fewest[k * MOST_PEOPLE + v] = least;
                }
            }
        }

        /** Minutes from one by the next as the first of k who pass it on. */
        private int minutesBy(Yard yard, int v, int next, int k) {
            if (!hasBit(yard.people[v].near, next) || k < 1 || k > MOST_PASSING) {
                return FAR;
            }
            return yard.people[next].late + yard.people[next].thinks + fewest[(k - 1) * MOST_PEOPLE + next];
        }

        /** Of the ways that minutes() found just now, the least row. */
        void findWay(Yard yard, int one) {
            int at = one;
            for (int k = passing; k > 0 && k <= MOST_PASSING; k--) {
                int next = 0;
                while (next < MOST_PEOPLE - 1 && minutesBy(yard, at, next, k) != fewest[k * MOST_PEOPLE + at]) {
                    next++;
                }
                way[passing - k] = next;
                at = next;
            }
        }
    }

    /** One alone who steers by what was seen late. */
    private static final class Helm {
        static final int MOST_UNSEEN = 4;
        static final int MOST_STEPS = 6;
        static final int MOST_PUSH = 4;
        /** As far as pushes and wind can bring it to one side. */
        static final int REACH = MOST_STEPS * (MOST_PUSH + 1);

        /** Cases in which the unseen winds together bring it so far, from the least on. */
        final long[] winds = new long[2 * MOST_UNSEEN + 3];
        final long[] costs = new long[2 * REACH + 1];
        final long[] now = new long[2 * REACH + 1];
        final long[] next = new long[2 * REACH + 1];
        int first;

        /** The least cost to be hoped for, in parts of ten to late and n; first tells the first push. */
        long leastCost(Yard yard, int late, int from, int n, int most) {
            spread(yard, late + 1);
            reckonCosts(yard.due, late + 1, from);
            for (int i = 0; i < next.length; i++) {
                next[i] = 0;
            }
            long parts = 1;
            for (int k = n - 1; k >= 0; k--) {
                int wide = k * (most + 1);
                for (int off = -wide; off <= wide; off++) {
                    now[inReach(off)] = leastAt(yard, off, most, parts);
                }
                System.arraycopy(now, 0, next, 0, next.length);
                parts *= 10;
            }
            return next[REACH];
        }

        private void spread(Yard yard, int unseen) {
            for (int i = 0; i < winds.length; i++) {
                winds[i] = 0;
            }
            winds[0] = 1;
            int still = 10 - yard.down - yard.up;
            for (int minute = 0; minute < unseen; minute++) {
                for (int i = winds.length - 1; i >= 0; i--) {
                    long cases = winds[i] * yard.down;
                    cases += i >= 1 ? winds[i - 1] * still : 0;
                    cases += i >= 2 ? winds[i - 2] * yard.up : 0;
                    winds[i] = cases;
                }
            }
        }

        private void reckonCosts(int due, int unseen, int from) {
            for (int off = -REACH; off <= REACH; off++) {
                long sum = 0;
                for (int i = 0; i < winds.length; i++) {
                    sum += winds[i] * Math.abs(from + off + i - unseen - due);
                }
                costs[inReach(off)] = sum;
            }
        }

        private long leastAt(Yard yard, int off, int most, long parts) {
            long least = hopedFor(yard, off, parts);
            first = 0;
            for (int size = 1; size <= most; size++) {
                for (int push = -size; push <= size; push += 2 * size) {
                    long cost = hopedFor(yard, off + push, parts);
                    if (cost < least) {
                        least = cost;
                        first = push;
                    }
                }
            }
            return least;
        }

        private long hopedFor(Yard yard, int off, long parts) {
            int still = 10 - yard.down - yard.up;
            return costs[inReach(off)] * parts + next[inReach(off - 1)] * yard.down
                    + next[inReach(off)] * still + next[inReach(off + 1)] * yard.up;
        }

        private static int inReach(int off) {
            return REACH + putTo(off, REACH);
        }
    }

    /** A number from which a part of what it was is taken off, minute by minute. */
    private static final class Sway {
        static final int BOUND = 99999;

        final int[] numbers = new int[LAST_MINUTE + 1];
        int last;

        void swing(int late, int k, int x, int n) {
            last = n < 0 ? 0 : n > LAST_MINUTE ? LAST_MINUTE : n;
            numbers[0] = x;
            for (int m = 0; m < last; m++) {
                int then = m - late;
                int seen = then < 0 || then > m ? x : numbers[then];
                numbers[m + 1] = putTo(numbers[m] - k * seen / 10, BOUND);
            }
        }

        int widest(int from, int to) {
            int most = 0;
            for (int m = Math.max(from, 0); m <= to && m <= last; m++) {
                most = Math.max(most, Math.abs(numbers[m]));
            }
            return most;
        }

        int turns() {
            int turns = 0;
            int side = 0;
            for (int m = 0; m <= last; m++) {
                int here = Integer.signum(numbers[m]);
                turns += here * side < 0 ? 1 : 0;
                side = here == 0 ? side : here;
            }
            return turns;
        }

        int calmFrom() {
            int from = NONE;
            for (int m = last; m >= 0 && Math.abs(numbers[m]) <= 1; m--) {
                from = m;
            }
            return from;
        }
    }

    /** Two who each see one of 0 .. 2, do one of 0 .. 2, and are paid together. */
    private static final class Match {
        final int[] weights = {1, 1, 1, 1, 1, 1, 1, 1, 1};
        final Formula pay = new Formula();
        /** The pay by what each sees, then what each does. */
        final int[] paid = new int[81];
        final int[] one = new int[3];
        final int[] other = new int[3];
        final int[] bestOne = new int[3];
        final int[] bestOther = new int[3];
        final int[] signs = new int[4];

        void tabulate() {
            for (int at = 0; at < paid.length; at++) {
                signs[0] = at / 27;
                signs[1] = at / 9 % 3;
                signs[2] = at / 3 % 3;
                signs[3] = at % 3;
                paid[at] = pay.value(signs);
            }
        }

        private long worth(int i, int j, int a, int b) {
            int seen = i * 3 + j;
            int at = seen * 9 + a * 3 + b;
            return at < 0 || at >= paid.length || seen >= weights.length ? 0 : (long) weights[seen] * paid[at];
        }

        long sum() {
            long sum = 0;
            for (int i = 0; i < 3; i++) {
                for (int j = 0; j < 3; j++) {
                    sum += worth(i, j, one[i], other[j]);
                }
            }
            return sum;
        }

        /** What one brings who sees a number and does a thing, by what the other one does. */
        private long brings(boolean first, int seen, int done) {
            long sum = 0;
            for (int k = 0; k < 3; k++) {
                sum += first ? worth(seen, k, done, other[k]) : worth(k, seen, one[k], done);
            }
            return sum;
        }

        /** The best thing to do; of equal ones that which is done already, else the least. */
        private int bestThing(boolean first, int seen, int already) {
            int best = 0;
            for (int done = 1; done < 3; done++) {
                if (brings(first, seen, done) > brings(first, seen, best)) {
                    best = done;
                }
            }
            return brings(first, seen, already) == brings(first, seen, best) ? already : best;
        }

        /** The best rules for both: to each rule of the one only the best of the other one can be best. */
        long playBest() {
            long most = 0;
            for (int rule = 0; rule < 27; rule++) {
                one[0] = rule / 9;
                one[1] = rule / 3 % 3;
                one[2] = rule % 3;
                for (int j = 0; j < 3; j++) {
                    other[j] = bestThing(false, j, 0);
                }
                long sum = sum();
                if (rule == 0 || sum > most) {
                    most = sum;
                    System.arraycopy(one, 0, bestOne, 0, 3);
                    System.arraycopy(other, 0, bestOther, 0, 3);
                }
            }
            return most;
        }

        /** By turns each does the best, till neither changes: how many turns changed a rule. */
        int playByTurns(int oneNumber, int otherNumber) {
            spell(oneNumber, one);
            spell(otherNumber, other);
            int changed = 0;
            int unchanged = 0;
            for (int turn = 0; turn < 1000000 && unchanged < 2; turn++) {
                if (changes(turn % 2 == 0)) {
                    changed++;
                    unchanged = 0;
                } else {
                    unchanged++;
                }
            }
            return changed;
        }

        private boolean changes(boolean first) {
            int[] doing = first ? one : other;
            boolean changed = false;
            for (int seen = 0; seen < 3; seen++) {
                int best = bestThing(first, seen, doing[seen]);
                changed = changed || best != doing[seen];
                doing[seen] = best;
            }
            return changed;
        }

        long mostSeeingBoth() {
            long sum = 0;
            for (int seen = 0; seen < 9; seen++) {
                long most = worth(seen / 3, seen % 3, 0, 0);
                for (int done = 1; done < 9; done++) {
                    most = Math.max(most, worth(seen / 3, seen % 3, done / 3, done % 3));
                }
                sum += most;
            }
            return sum;
        }

        private static void spell(int number, int[] into) {
            into[0] = number / 100;
            into[1] = number / 10 % 10;
            into[2] = number % 10;
        }

        static int ruleNumber(int[] rule) {
            return rule[0] * 100 + rule[1] * 10 + rule[2];
        }
    }
}
