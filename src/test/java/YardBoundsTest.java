/** The bounds that Promises 1 to 10 name, each at the bound and past it; rules and their faults: ExpressionBoundsTest. */
public final class YardBoundsTest {
    private static final Check check = new Check("YardBoundsTest");
    private static final int[] NOBODY = {-1, 5, 6, Integer.MIN_VALUE, Integer.MAX_VALUE};
    private static final World world = new World(check, World::five);

    public static void main(String[] args) {
        newOneHasNobodyInMinute0();
        personIsNumberedInOrder();
        personRefusesOthers();
        personRefusesASeventh();
        setTellsWhatItWas();
        setRefusesOthers();
        linkOfTwoUnlikeOnes();
        linkRefusesOthers();
        beamTellsWhatItWas();
        beamRefusesOthers();
        beamRefusesStartBehindMinute0();
        beamRefusesWindAboveTen();
        sheetOfBytes();
        sheetOfShorts();
        sheetOfInts();
        sheetOfFewerEntriesThanPeople();
        sheetOfMoreEntriesThanPeople();
        sheetBelow0ChangesNothing();
        sheetMissing();
        sheetRefusesTheseFirst();
        signPutsTheHighestByteFirst();
        signHasSixtyAtMost();
        endHasSoMany();
        endRefusesOthers();
        ruleThatCanNotStandChangesNothing();
        doesOfNoneSuch();
        doesFromFirstToLastMinute();
        check.end();
    }

    /** Promise 1: nobody; MINUTE 0. */
    private static void newOneHasNobodyInMinute0() {
        TheyHearLate x = new TheyHearLate();
        check.due("people", x.count(0), 0);
        check.due("now", x.count(1), 0);
        check.due("rules", x.count(2), 0);
        check.due("due", x.count(3), 0);
        check.due("numbers of the row", x.count(4), 0);
        check.due("signs of the text", x.count(5), 0);
        check.due("place", x.place(0), 0);
        check.isThrown("minute 1", () -> x.place(1));
        check.isThrown("nobody does", () -> x.does(0, 0));
        check.due("one", x.person(0, 0, 0), 0);
    }

    /** Promise 2: one of PEOPLE more: its number. */
    private static void personIsNumberedInOrder() {
        TheyHearLate x = new TheyHearLate();
        int[][] bounds = {{0, 0, 0}, {20, 20, 9}, {20, 0, 0}, {0, 20, 0}, {0, 0, 9}, {1, 1, 1}};
        for (int i = 0; i < 6; i++) {
            check.due("number", x.person(bounds[i][0], bounds[i][1], bounds[i][2]), i);
            check.due("people", x.count(0), i + 1);
        }
        for (int i = 0; i < 6; i++) {
            for (int what = 0; what < 3; what++) {
                check.due("of " + i, x.set(i, what, 0), bounds[i][what]);
            }
        }
    }

    /** Promise 2: refused: others. */
    private static void personRefusesOthers() {
        int[] late = {-1, 21, Integer.MIN_VALUE, Integer.MAX_VALUE};
        int[] thinks = {-1, 10, Integer.MIN_VALUE, Integer.MAX_VALUE};
        for (int i = 0; i < 4; i++) {
            int l = late[i];
            int t = thinks[i];
            world.refuses("late " + l, -1, x -> x.person(l, 0, 0));
            world.refuses("sight " + l, -1, x -> x.person(0, l, 0));
            world.refuses("thinks " + t, -1, x -> x.person(0, 0, t));
        }
        check.due("the next one", world.make().person(0, 0, 0), 5);
    }

    /** Promise 2: refused: 6. */
    private static void personRefusesASeventh() {
        World full = new World(check, World::six);
        full.refuses("a seventh", -1, x -> x.person(0, 0, 0));
        full.refuses("a seventh", -1, x -> x.person(20, 20, 9));
        full.refuses("a seventh and others", -1, x -> x.person(21, 0, 0));
    }

    /** Promise 3: it becomes v: what it was. */
    private static void setTellsWhatItWas() {
        int[] most = {20, 20, 9};
        for (int what = 0; what < 3; what++) {
            TheyHearLate x = new TheyHearLate();
            x.person(3, 3, 3);
            x.person(4, 4, 4);
            check.due("was", x.set(0, what, most[what]), 3);
            check.due("was", x.set(0, what, 0), most[what]);
            check.due("was", x.set(0, what, 1), 0);
            check.due("was", x.set(0, what, 1), 1);
            for (int other = 0; other < 3; other++) {
                check.due("the others stay", x.set(0, other, 0), other == what ? 1 : 3);
                check.due("another one's stay", x.set(1, other, 0), 4);
            }
        }
    }

    /** Promise 3: refused: others. */
    private static void setRefusesOthers() {
        int[] most = {20, 20, 9};
        for (int what = 0; what < 3; what++) {
            int w = what;
            world.refuses("below its bound", -1, x -> x.set(0, w, -1));
            world.refuses("above its bound", -1, x -> x.set(4, w, most[w] + 1));
            world.refuses("far below its bound", -1, x -> x.set(0, w, Integer.MIN_VALUE));
            world.refuses("far above its bound", -1, x -> x.set(0, w, Integer.MAX_VALUE));
            for (int nobody : NOBODY) {
                world.refuses("nobody " + nobody, -1, x -> x.set(nobody, w, 1));
            }
        }
        for (int what : new int[] {-1, 3, Integer.MIN_VALUE, Integer.MAX_VALUE}) {
            world.refuses("what " + what, -1, x -> x.set(0, what, 1));
        }
    }

    /** Promise 4: two unlike ones are NEAR, or not (both ways), one SEES another one, or not: true. */
    private static void linkOfTwoUnlikeOnes() {
        TheyHearLate x = new TheyHearLate();
        for (int i = 0; i < 6; i++) {
            x.person(2, 0, 0);
        }
        check.due("not near is not near", x.link(0, 0, 5, false), true);
        check.due("not near", x.by(0, 5, 9), -2);
        check.due("near", x.link(0, 0, 5, true), true);
        check.due("near still", x.link(0, 5, 0, true), true);
        check.due("near", x.by(0, 5, 9), 7);
        check.due("near", x.by(5, 0, 9), 7);
        check.due("nobody else", x.by(0, 4, 9), -2);
        check.due("sees", x.link(1, 5, 0, true), true);
        check.due("sees still", x.link(1, 5, 0, true), true);
        check.due("sees", x.soon(5, 0), 2);
        check.due("is not seen", x.soon(0, 5), 4);
        check.due("sees not", x.link(1, 0, 5, false), true);
        check.due("sees", x.soon(5, 0), 2);
        check.due("sees no more", x.link(1, 5, 0, false), true);
        check.due("sees no more", x.soon(5, 0), 4);
        check.due("near no more", x.link(0, 5, 0, false), true);
        check.due("near no more", x.by(0, 5, 9), -2);
        check.due("near no more", x.by(5, 0, 9), -2);
    }

    /** Promise 4: refused: others. */
    private static void linkRefusesOthers() {
        for (boolean is : new boolean[] {true, false}) {
            for (int what = 0; what < 2; what++) {
                int w = what;
                for (int i = 0; i < 5; i++) {
                    int one = i;
                    world.refusesTruth("like ones", x -> x.link(w, one, one, is));
                }
                for (int nobody : NOBODY) {
                    world.refusesTruth("nobody " + nobody, x -> x.link(w, nobody, 0, is));
                    world.refusesTruth("nobody " + nobody, x -> x.link(w, 0, nobody, is));
                    world.refusesTruth("nobody " + nobody, x -> x.link(w, nobody, nobody, is));
                }
            }
            for (int what : new int[] {-1, 2, Integer.MIN_VALUE, Integer.MAX_VALUE}) {
                world.refusesTruth("what " + what, x -> x.link(what, 0, 1, is));
                world.refusesTruth("what " + what, x -> x.link(what, 3, 4, is));
            }
        }
    }

    /** Promise 5: START (-999 .. 999), DUE, DOWN, UP becomes v: what it was. */
    private static void beamTellsWhatItWas() {
        TheyHearLate x = new TheyHearLate();
        int[] most = {999, 99, 10, 10};
        int[] least = {-999, -99, 0, 0};
        for (int what = 0; what < 4; what++) {
            check.due("at first", x.beam(what, most[what]), 0);
            check.due("the greatest", x.beam(what, least[what]), most[what]);
            check.due("the least", x.beam(what, 1), least[what]);
            check.due("1", x.beam(what, 0), 1);
        }
    }

    /** Promise 5: refused: others. */
    private static void beamRefusesOthers() {
        World begun = new World(check, World::begun);
        int[] most = {999, 99, 7, 8};
        int[] least = {-999, -99, 0, 0};
        for (int what = 0; what < 4; what++) {
            int w = what;
            begun.refuses("above its bound", -1, x -> x.beam(w, most[w] + 1));
            begun.refuses("below its bound", -1, x -> x.beam(w, least[w] - 1));
            begun.refuses("far above its bound", -1, x -> x.beam(w, Integer.MAX_VALUE));
            begun.refuses("far below its bound", -1, x -> x.beam(w, Integer.MIN_VALUE));
            check.due("at its bound", begun.make().beam(w, most[w]) != -1, true);
            check.due("at its bound", begun.make().beam(w, least[w]) != -1, true);
        }
        for (int what : new int[] {-1, 4, Integer.MIN_VALUE, Integer.MAX_VALUE}) {
            begun.refuses("what " + what, -1, x -> x.beam(what, 0));
        }
    }

    /** Promise 5: refused: START behind MINUTE 0. */
    private static void beamRefusesStartBehindMinute0() {
        world.refuses("in minute 7", -1, x -> x.beam(0, 1));
        world.refuses("in minute 7, as it is", -1, x -> x.beam(0, 15));
        World first = new World(check, () -> {
            TheyHearLate x = World.begun();
            x.go(1);
            return x;
        });
        first.refuses("in minute 1", -1, x -> x.beam(0, 1));
        TheyHearLate x = new TheyHearLate();
        x.go(0);
        check.due("no minute went by", x.beam(0, 8), 0);
        x.keep(0);
        x.go(199);
        check.due("in minute 199", x.beam(0, 9), -1);
        check.due("due in minute 199", x.beam(1, 9), 0);
        check.due("down in minute 199", x.beam(2, 9), 0);
        check.due("up in minute 199", x.beam(3, 1), 0);
        x.again(0);
        check.due("as kept in minute 0", x.beam(0, 9), 8);
        x.go(1);
        x.begin();
        check.due("begun again", x.beam(0, 10), 9);
        check.due("place is start", x.place(0), 10);
    }

    /** Promise 5: DOWN and UP together 10 at most. */
    private static void beamRefusesWindAboveTen() {
        TheyHearLate x = world.make();
        check.due("2 and 8", x.beam(3, 8), 3);
        check.due("2 and 9", x.beam(3, 9), -1);
        check.due("3 and 8", x.beam(2, 3), -1);
        check.due("1 and 8", x.beam(2, 1), 2);
        check.due("1 and 9", x.beam(3, 9), 8);
        check.due("1 and 10", x.beam(3, 10), -1);
        check.due("0 and 9", x.beam(2, 0), 1);
        check.due("0 and 10", x.beam(3, 10), 9);
        check.due("1 and 10", x.beam(2, 1), -1);
        check.due("0 and 10 stay", x.beam(3, 0), 10);
        check.due("0 and 0", x.beam(2, 10), 0);
        check.due("10 and 1", x.beam(3, 1), -1);
        check.due("10 and 0", x.beam(3, 0), 0);
    }

    private static void lates(String call, TheyHearLate x, int... want) {
        for (int i = 0; i < want.length; i++) {
            int late = x.set(i, 0, 0);
            x.set(i, 0, late);
            check.due("late of " + i + " behind " + call, late, want[i]);
        }
    }

    /** One alone, whose LATE a sheet of one entry tells. */
    private static void entry(int kind, int f, int want) {
        TheyHearLate x = new TheyHearLate();
        x.person(7, 0, 0);
        String call = "sheet(" + kind + ", 1, " + f + ", 0)";
        check.due(call, x.sheet(kind, 1, f, 0), want);
        lates(call, x, want);
    }

    /** Promise 6: bytes: the lowest bits, with their sign; put to 0 .. 20. */
    private static void sheetOfBytes() {
        int[][] entries = {{0, 0}, {1, 1}, {19, 19}, {20, 20}, {21, 20}, {-1, 0}, {127, 20}, {128, 0}, {255, 0},
                {256, 0}, {257, 1}, {276, 20}, {277, 20}, {-256, 0}, {-255, 1}, {-236, 20}, {-128, 0}, {-129, 20},
                {Integer.MAX_VALUE, 0}, {Integer.MIN_VALUE, 0}, {Integer.MIN_VALUE + 5, 5}, {65536 + 12, 12}};
        for (int[] e : entries) {
            entry(0, e[0], e[1]);
        }
    }

    /** Promise 6: shorts: the lowest bits, with their sign; put to 0 .. 20. */
    private static void sheetOfShorts() {
        int[][] entries = {{0, 0}, {1, 1}, {20, 20}, {21, 20}, {-1, 0}, {128, 20}, {255, 20}, {257, 20}, {32767, 20},
                {32768, 0}, {65535, 0}, {65536, 0}, {65537, 1}, {65556, 20}, {-32768, 0}, {-32769, 20}, {-65535, 1},
                {Integer.MAX_VALUE, 0}, {Integer.MIN_VALUE, 0}, {Integer.MIN_VALUE + 5, 5}};
        for (int[] e : entries) {
            entry(1, e[0], e[1]);
        }
    }

    /** Promise 6: ints, f, f + step, .., put to 0 .. 20. */
    private static void sheetOfInts() {
        int[][] entries = {{0, 0}, {1, 1}, {20, 20}, {21, 20}, {-1, 0}, {32768, 20}, {65536, 20}, {-65535, 0},
                {Integer.MAX_VALUE, 20}, {Integer.MIN_VALUE, 0}, {Integer.MIN_VALUE + 5, 0}};
        for (int[] e : entries) {
            entry(2, e[0], e[1]);
        }
        TheyHearLate x = world.make();
        check.due("behind the greatest int", x.sheet(2, 3, Integer.MAX_VALUE, 1), 20);
        lates("behind the greatest int", x, 20, 0, 0, 0, 0);
        check.due("ahead of the least int", x.sheet(2, 3, Integer.MIN_VALUE, -1), 40);
        lates("ahead of the least int", x, 0, 20, 20, 0, 0);
        check.due("twice half of all", x.sheet(2, 3, 4, Integer.MIN_VALUE), 8);
        lates("twice half of all", x, 4, 0, 4, 0, 0);
        check.due("5 3 1 -1 -3", x.sheet(2, 5, 5, -2), 9);
        lates("5 3 1 -1 -3", x, 5, 3, 1, 0, 0);
    }

    /** Promise 6: those behind it have 0: the sum of LATE of all PEOPLE. */
    private static void sheetOfFewerEntriesThanPeople() {
        for (int n = 0; n <= 5; n++) {
            TheyHearLate x = world.make();
            check.due("sheet of " + n, x.sheet(2, n, 3, 1), 3 * n + n * (n - 1) / 2);
            for (int i = 0; i < 5; i++) {
                check.due("late of " + i + " behind a sheet of " + n, x.set(i, 0, 0), i < n ? 3 + i : 0);
            }
        }
    }

    /** Promise 6: more entries than PEOPLE are left aside. */
    private static void sheetOfMoreEntriesThanPeople() {
        TheyHearLate x = world.make();
        check.due("six of five", x.sheet(2, 6, 3, 1), 25);
        x.person(8, 0, 0);
        lates("six of five", x, 3, 4, 5, 6, 7, 8);
        check.due("six of six", x.sheet(2, 6, 3, 1), 33);
        check.due("nobody", new TheyHearLate().sheet(2, 6, 3, 1), 0);
        check.due("nobody, none", new TheyHearLate().sheet(2, 0, 3, 1), 0);
    }

    /** Promise 6: -2: n below 0 (of kinds 0 .. 2; nothing changes). */
    private static void sheetBelow0ChangesNothing() {
        for (int kind = 0; kind <= 2; kind++) {
            int k = kind;
            world.refuses("kind " + k + ", n -1", -2, x -> x.sheet(k, -1, 3, 1));
            world.refuses("kind " + k + ", n far below 0", -2, x -> x.sheet(k, Integer.MIN_VALUE, 3, 1));
            check.due("kind " + k + ", n 0", world.make().sheet(k, 0, 3, 1), 0);
        }
    }

    /** Promise 6: -3: missing (all 0). */
    private static void sheetMissing() {
        for (int n : new int[] {Integer.MIN_VALUE, -1, 0, 1, 5, 6}) {
            TheyHearLate x = world.make();
            check.due("missing, n " + n, x.sheet(3, n, 3, 1), -3);
            lates("missing", x, 0, 0, 0, 0, 0);
        }
        check.due("missing, nobody", new TheyHearLate().sheet(3, 0, 3, 1), -3);
    }

    /** Promise 6: NONE: another kind, n above 6 (these first). */
    private static void sheetRefusesTheseFirst() {
        for (int n : new int[] {Integer.MIN_VALUE, -1, 0, 6, 7}) {
            for (int kind : new int[] {-1, 4, Integer.MIN_VALUE, Integer.MAX_VALUE}) {
                world.refuses("kind " + kind + ", n " + n, -1, x -> x.sheet(kind, n, 3, 1));
            }
        }
        for (int kind = 0; kind <= 3; kind++) {
            int k = kind;
            world.refuses("kind " + k + ", n 7", -1, x -> x.sheet(k, 7, 3, 1));
            world.refuses("kind " + k + ", n far above 6", -1, x -> x.sheet(k, Integer.MAX_VALUE, 3, 1));
            check.due("kind " + k + ", n 6", world.make().sheet(k, 6, 3, 0), k == 3 ? -3 : 15);
        }
    }

    /** Promise 7: four signs come behind THE TEXT, of v the highest byte first. */
    private static void signPutsTheHighestByteFirst() {
        TheyHearLate x = new TheyHearLate();
        x.person(0, 0, 0);
        check.due("9-3*", x.sign(0x392d332a), 4);
        check.due("2   ", x.sign(0x32ffffff), 8);
        x.end(5);
        check.due("9-3*2", x.rule(1), 0);
        check.due("9-3*2", x.does(0, 1), 3);
        check.due("the highest sign of all", x.sign(0xff000000), 4);
        x.end(1);
        check.due("can't stand", x.rule(1), -1);
        check.due("the least int", x.sign(Integer.MIN_VALUE), 4);
        check.due("can't stand", x.rule(1), -1);
        x.sign(0x37000000);
        check.due("sign 0 can't stand", x.rule(1), -2);
    }

    /** Promise 7: refused: there would be more than 60. */
    private static void signHasSixtyAtMost() {
        int[] had = {0, 55, 56, 57, 58, 59, 60};
        for (int n : had) {
            TheyHearLate x = new TheyHearLate();
            for (int i = 0; i < 15; i++) {
                check.due("sign", x.sign(0x37373737), 4 * i + 4);
            }
            x.end(n);
            check.due("four behind " + n, x.sign(0x38383838), n <= 56 ? n + 4 : -1);
            check.due("signs", x.count(5), n <= 56 ? n + 4 : n);
        }
        World full = new World(check, () -> {
            TheyHearLate x = World.five();
            for (int i = 0; i < 14; i++) {
                x.sign(0x2b787978);
            }
            return x;
        });
        check.due("signs", full.make().count(5), 59);
        full.refuses("sign behind 59", -1, x -> x.sign(0));
        full.refuses("sign behind 59", -1, x -> x.sign(-1));
    }

    /** Promise 8: THE TEXT has its first n signs alone: true. */
    private static void endHasSoMany() {
        for (int n = 0; n <= 8; n++) {
            TheyHearLate x = new TheyHearLate();
            x.person(0, 0, 0);
            x.sign(0x31323332);
            x.sign(0x31323332);
            check.due("end(" + n + ")", x.end(n), true);
            check.due("signs", x.count(5), n);
            check.due("no longer again", x.end(n + 1), false);
            check.due("signs", x.count(5), n);
            check.due("the first ones", x.rule(1), n <= 3 ? 0 : -4);
            check.due("the first ones", x.does(0, 1), n == 0 ? 0 : n == 1 ? 1 : n == 2 ? 12 : n == 3 ? 99 : 0);
        }
    }

    /** Promise 8: false if it has not so many, or n is below 0. */
    private static void endRefusesOthers() {
        for (int n : new int[] {4, 5, 60, 61, -1, Integer.MIN_VALUE, Integer.MAX_VALUE}) {
            world.refusesTruth("end(" + n + ") of 3", x -> x.end(n));
        }
        check.due("end(3) of 3", world.make().end(3), true);
        world.leaves("end(3) of 3", x -> x.end(3) ? 1 : 0);
        TheyHearLate x = new TheyHearLate();
        check.due("end(0) of none", x.end(0), true);
        check.due("end(1) of none", x.end(1), false);
        check.due("end(-1) of none", x.end(-1), false);
    }

    /** Promise 9: -1 - p; what was told stays, THE TEXT is empty. */
    private static void ruleThatCanNotStandChangesNothing() {
        World faulty = new World(check, () -> {
            TheyHearLate x = World.five();
            x.sign('*' << 24 | '/' << 16);
            return x;
        });
        for (int i = 0; i < 12; i++) {
            int rule = i;
            faulty.refusesWithTheText("rule " + i + " of x+7*/", -5, x -> x.rule(rule));
        }
        faulty.refusesWithTheText("no rule of x+7*/", -100, x -> x.rule(12));
    }

    /** Promise 10: NoSuchElementException: none such. */
    private static void doesOfNoneSuch() {
        for (int what = 0; what < 2; what++) {
            int w = what;
            for (int nobody : NOBODY) {
                world.throwsNoSuch("does(" + nobody + ", " + w + ")", x -> x.does(nobody, w));
            }
            check.isThrown("nobody at all", () -> new TheyHearLate().does(0, w));
        }
        for (int what : new int[] {-1, 2, Integer.MIN_VALUE, Integer.MAX_VALUE}) {
            world.throwsNoSuch("does(0, " + what + ")", x -> x.does(0, what));
        }
        world.leaves("does(0, 0)", x -> x.does(0, 0));
        world.leaves("does(4, 1)", x -> x.does(4, 1));
        World full = new World(check, World::six);
        full.leaves("does(5, 1)", x -> x.does(5, 1));
        check.due("the last one's word", full.make().does(5, 1), full.make().place(6) / 9);
    }

    /** Promise 10: what one would DO, SAY NOW. */
    private static void doesFromFirstToLastMinute() {
        TheyHearLate x = new TheyHearLate();
        x.person(0, 0, 0);
        x.person(0, 0, 0);
        Check.rule(x, 0, "t/100+1");
        Check.rule(x, 1, "t-100");
        check.due("does in minute 0", x.does(0, 0), 1);
        check.due("says in minute 0", x.does(0, 1), -99);
        check.due("does without a rule", x.does(1, 0), 0);
        check.due("says without a rule", x.does(1, 1), 0);
        x.go(199);
        check.due("does in minute 199", x.does(0, 0), 2);
        check.due("says in minute 199", x.does(0, 1), 99);
        Check.rule(x, 0, "x");
        check.due("by the rule as it is now", x.does(0, 0), 9);
        check.due("as it was", x.was(0, 198, 0), 2);
    }
}
