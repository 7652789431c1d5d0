import java.util.function.IntUnaryOperator;

/** The edges of section 3, UP to CAUGHT, and of promises 17 to 24, sentence by sentence. */
public final class ComingEdgesTest {
    private static final Check CHECK = new Check("ComingEdgesTest");
    private static final int BAD = CrankedExcuse.BAD;
    private static final int NONE = CrankedExcuse.NONE;
    private static final int MOST = Integer.MAX_VALUE;
    private static final int LEAST = Integer.MIN_VALUE;

    private static void due(String call, long got, long want) {
        CHECK.due(call, got, want);
    }

    private static void bad(String name, Look.Steps ahead, Look.Numbered call, int... numbers) {
        Look.bad(CHECK, name, ahead, call, numbers);
    }

    /** Person 0 gives so many to person 1. */
    private static CrankedExcuse told(String text, int many) {
        CrankedExcuse x = Check.laid(text);
        tell(x, many);
        return x;
    }

    private static void tell(CrankedExcuse x, int many) {
        for (int n = 0; n < many; n++) {
            if (x.give(0, 1) < 0) {
                throw new IllegalArgumentException("not so many");
            }
        }
    }

    /** Person 0 gives to person 1 what shows these teeth. */
    private static void tellTeeth(CrankedExcuse x, int... teeth) {
        for (int i = 0; i < teeth.length; i++) {
            int t = x.wheel(i, 0);
            x.gear(i, (teeth[i] - x.wheel(i, 2) + t) % t);
        }
        int e = x.give(0, 1);
        for (int i = 0; i < teeth.length; i++) {
            if (e < 0 || x.wheel(i, 2) != teeth[i]) {
                throw new IllegalArgumentException("these can't be told");
            }
        }
    }

    public static void main(String[] args) {
        up();
        upRound();
        round();
        sensible();
        sensibleInARound();
        longest();
        longestStale();
        teethBounds();
        teethNoneHeard();
        teethMany();
        teethLowestOfSeveral();
        teethEachPerson();
        oneAfterTheOther();
        together();
        togetherOneWheel();
        togetherWheels();
        owner();
        ownerFirst();
        caughtBounds();
        caughtTerms();
        caughtSharers();
        CHECK.end();
    }

    /** Promise 17: "n (0 to 9999)", what 0 and 1 */
    private static void up() {
        bad("17 up(n, 0)", Look::used, (x, n) -> x.up(n, 0), LEAST, -1, 10000, MOST);
        bad("17 up(n, 1)", Look::used, (x, n) -> x.up(n, 1), LEAST, -1, 10000, MOST);
        bad("17 up(0, what)", Look::used, (x, n) -> x.up(0, n), LEAST, -1, 2, MOST);
        bad("17 up(9999, what)", Look::used, (x, n) -> x.up(9999, n), -1, 2);
        CrankedExcuse x = Check.laid("w5,4,3;w6,5,1;w4,3,0;w3,2,2;");
        int e = (3 + 4 * 9999) % 5 + 5 * ((1 + 5 * 9999) % 6 + 6 * (3 * 9999 % 4 + 4 * ((2 + 2 * 9999) % 3)));
        due("17 up(9999, 0)", x.up(9999, 0), e);
        due("17 up(0, 0) is what is up", x.up(0, 0), 3 + 5 * (1 + 6 * (0 + 4 * 2)));
        due("17 up(9999, 1)", x.up(9999, 1), 1);
        x.file(0, e % 5);
        due("17 up(9999, 1), filed", x.up(9999, 1), 0);
        due("17 up(0, 1)", x.up(0, 1), 1);
        x.file(0, 3);
        due("17 up(0, 1), filed", x.up(0, 1), 0);
        for (int n : new int[] {0, 1, 9999}) {
            Look.unchanged(CHECK, "17 up(" + n + ", 0)", Look::used, y -> y.up(n, 0));
            Look.unchanged(CHECK, "17 up(" + n + ", 1)", Look::used, y -> y.up(n, 1));
        }
    }

    /** "behind n TURNS from now on", round */
    private static void upRound() {
        CrankedExcuse x = new CrankedExcuse();
        CrankedExcuse y = new CrankedExcuse();
        int now = x.up(0, 0);
        for (int n = 1; n <= 60; n++) {
            int e = y.crank();
            due("17 as by so many turns, " + n, x.up(n, 0), e);
            due("17 sense as it has, " + n, x.up(n, 1), x.sense(e));
        }
        due("17 round", x.up(60, 0) * 100 + y.up(0, 0), now * 101);
        x.gear(0, 0);
        due("17 A as it is now", x.up(1, 0), 0 + 4 * (0 + 3 * 2));
    }

    /** Promise 18: "the least number of TURNS (1 ..)" */
    private static void round() {
        for (int t = 2; t <= 6; t++) {
            for (int a = 0; a < t; a++) {
                for (int u = 2; u <= 6; u++) {
                    for (int b = 0; b < u; b++) {
                        CrankedExcuse x = Check.laid("w" + t + "," + a + ",1;w" + u + "," + b + ",0;");
                        int n = 1;
                        while (a * n % t != 0 || b * n % u != 0) {
                            n++;
                        }
                        due("18 round of " + t + ", " + a + " and " + u + ", " + b, x.round(), n);
                    }
                }
            }
        }
        due("18 1 at least: one wheel", Check.laid("w2,0,1;").round(), 1);
        due("18 1 at least: four", Check.laid("w6,0,1;w5,0,4;w2,0,0;w3,0,2;").round(), 1);
        due("18 60 at most", Check.laid("w6,5,1;w5,4,4;w4,3,0;w3,2,2;").round(), 60);
        CrankedExcuse x = new CrankedExcuse();
        x.crank();
        due("18 from now on", x.round(), 60);
        x.gear(0, 2);
        due("18 A now", x.round(), 30);
        x.undo();
        due("18 A undone", x.round(), 60);
        Look.unchanged(CHECK, "18 round", Look::used, CrankedExcuse::round);
    }

    /** Promise 19: "how many EXCUSES have SENSE" */
    private static void sensible() {
        bad("19 sensible", Look::used, (x, n) -> x.sensible(n), LEAST, -1, 2, MOST);
        Look.unchanged(CHECK, "19 sensible(0)", Look::used, x -> x.sensible(0));
        Look.unchanged(CHECK, "19 sensible(1)", Look::used, x -> x.sensible(1));
        due("19 all of two", Check.laid("w2,0,0;").sensible(0), 2);
        due("19 all of 1296", Check.laid("w6,0,0;w6,0,0;w6,0,0;w6,0,0;").sensible(0), 1296);
        CrankedExcuse x = Check.laid("w2,1,0;w2,1,0;x0,0,1,1;x0,1,1,0;x0,0,1,0;");
        due("19 the last one alone", x.sensible(0) * 10 + x.sensible(1), 11);
        x.file(0, 1);
        due("19 none", x.sensible(0) * 10 + x.sensible(1), 0);
        CrankedExcuse first = Check.laid("w2,1,0;w2,1,0;x0,0,1,1;x0,1,1,0;x0,1,1,1;");
        due("19 the first one alone", first.sensible(0) * 10 + first.sensible(1), 11);
        CrankedExcuse none = Check.laid("w6,1,0;");
        for (int tooth = 0; tooth < 6; tooth++) {
            none.file(0, tooth);
            due("19 all less those filed", none.sensible(0) * 10 + none.sensible(1), (5 - tooth) * 11);
        }
    }

    /** "how many come in a ROUND (from now on)": once each, what is up now among them */
    private static void sensibleInARound() {
        CrankedExcuse x = Check.laid("w6,0,4;w3,0,1;");
        due("19 nothing but what is up comes", x.sensible(1), 1);
        x.file(0, 5);
        due("19 what does not come is nothing to it", x.sensible(1), 1);
        x.file(0, 4);
        due("19 what is up is filed", x.sensible(1), 0);
        CrankedExcuse y = Check.laid("w6,2,1;w6,3,0;");
        due("19 each once", y.sensible(1), 6);
        y.file(0, 3);
        due("19 less those filed", y.sensible(1), 4);
        y.crank();
        due("19 from what is up now: the same ones", y.sensible(1), 4);
        y.gear(0, 0);
        due("19 from what is up now: others", y.sensible(1), 0);
        due("19 all", y.sensible(0), 30);
    }

    /** Promise 20 */
    private static void longest() {
        bad("20 longest", Look::used, (x, n) -> x.longest(n), LEAST, -1, 3, MOST);
        bad("20 nobody there", Look.laid("w2,0,0;"), (x, n) -> x.longest(n), 0);
        bad("20 five there", Look.laid("w2,0,0;p0;p0;p0;p0;p0;"), (x, n) -> x.longest(n), -1, 5);
        due("20 the last of five", Check.laid("w2,1,0;p0;p0;p0;p0;p0;").longest(4), 2);
        for (int p = 0; p < 3; p++) {
            int one = p;
            Look.unchanged(CHECK, "20 longest(" + p + ")", Look::used, x -> x.longest(one));
        }
        CrankedExcuse x = Check.laid("w2,1,0;p0;p0;");
        int[] want = {2, 1, 0};
        for (int n = 0; n < 3; n++) {
            due("20 less by each heard", x.longest(1), want[n]);
            due("20 not for who told", x.longest(0), 2);
            x.give(0, 1);
        }
    }

    /** "that have SENSE and are not STALE for him", "come in a ROUND" */
    private static void longestStale() {
        CrankedExcuse x = Check.laid("w6,1,0;w2,0,0;p2;p0;p4;p0;");
        due("20 those that come", x.longest(0), 6);
        x.give(2, 0);
        due("20 himself", x.longest(0), 5);
        due("20 one who talks to him", x.longest(1), 5);
        due("20 another one", x.longest(2) * 10 + x.longest(3), 66);
        x.file(0, 1);
        due("20 stale and filed: one less", x.longest(0), 5);
        due("20 filed alone: one less", x.longest(3), 5);
        x.file(0, 2);
        due("20 filed: one less", x.longest(0) * 10 + x.longest(3), 44);
        x.gear(1, 1);
        due("20 others come", x.longest(0) * 10 + x.longest(3), 44);
        x.gear(0, 0);
        due("20 what comes is filed", x.longest(0), 0);
        x.undo();
        x.undo();
        x.undo();
        x.undo();
        due("20 undone", x.longest(0) * 10 + x.longest(3), 56);
    }

    /** Promise 21: k from -1 to 7 */
    private static void teethBounds() {
        bad("21 teeth(1, k)", Look::used, (x, n) -> x.teeth(1, n), LEAST, -3, -2, 8, 9, MOST);
        bad("21 teeth(0, k), none heard", Look::used, (x, n) -> x.teeth(0, n), -2, 8);
        bad("21 teeth(p, -1)", Look::used, (x, n) -> x.teeth(n, -1), LEAST, -1, 3, MOST);
        bad("21 teeth(p, 7)", Look::used, (x, n) -> x.teeth(n, 7), -1, 3);
        bad("21 nobody there", Look.laid("w2,0,0;"), (x, n) -> x.teeth(0, n), -1, 0);
        for (int k = -1; k < 8; k++) {
            int one = k;
            Look.unchanged(CHECK, "21 teeth(1, " + k + ")", Look::used, x -> x.teeth(1, one));
        }
    }

    /** "(0: none HEARD)", "NONE: there are not so many" */
    private static void teethNoneHeard() {
        CrankedExcuse x = Check.laid("w6,1,5;p0;p0;");
        for (int heard = 0; heard <= 6; heard++) {
            due("21 how many of " + heard, x.teeth(1, -1), heard);
            for (int k = 0; k < 8; k++) {
                due("21 the " + k + "-th of " + heard, x.teeth(1, k), k < heard ? k : NONE);
            }
            due("21 for who told", x.teeth(0, -1) * 10 + x.teeth(0, 0), NONE);
            x.give(0, 1);
        }
        x.undo();
        due("21 undone", x.teeth(1, -1), 5);
        Look.refused(CHECK, "21 NONE", Look::used, y -> y.teeth(0, 0), NONE);
        Look.refused(CHECK, "21 NONE at the last k", Look::used, y -> y.teeth(1, 7), NONE);
    }

    /** 12 heard: as few teeth as can be, up to 6. */
    private static void teethMany() {
        CrankedExcuse six = told("w6,1,0;w6,1,0;w6,1,0;w6,1,0;p0;p0;", 6);
        due("21 six, all unlike", six.teeth(1, -1), 6);
        for (int k = 0; k < 6; k++) {
            due("21 six, all unlike: wheel 0 is lowest", six.teeth(1, k), k);
        }
        due("21 six, all unlike: no seventh", six.teeth(1, 6), NONE);
        CrankedExcuse twelve = told("w6,1,0;w6,0,0;w5,1,0;p0;p0;", 12);
        due("21 twelve with one tooth", twelve.teeth(1, -1), 1);
        due("21 twelve with one tooth: which", twelve.teeth(1, 0), 10);
        CrankedExcuse four = told("w6,1,0;w4,1,0;p0;p0;", 12);
        due("21 twelve of four teeth", four.teeth(1, -1), 4);
        for (int k = 0; k < 4; k++) {
            due("21 twelve of four teeth: which", four.teeth(1, k), 10 + k);
        }
        CrankedExcuse last = told("w6,1,0;w6,1,1;w6,1,2;w6,0,5;p0;p0;", 6);
        due("21 the last tooth of the last wheel", last.teeth(1, 0), 35);
    }

    /** "of several sets the one whose lowest TOOTH is lowest, then the next" */
    private static void teethLowestOfSeveral() {
        CrankedExcuse one = told("w6,0,5;w2,0,0;w2,0,1;p0;p0;", 1);
        due("21 tooth 5 of wheel 0 ahead of tooth 0 of wheel 1", one.teeth(1, 0), 5);
        // (5,0) (4,0): 0 of wheel 1, of wheel 2 as well
        CrankedExcuse two = told("w6,5,0;w2,0,0;w2,0,0;p0;p0;", 2);
        due("21 wheel 1 ahead of wheel 2", two.teeth(1, 0), 10);
        // (0,0) (1,1) (2,0) (2,1): 2 of wheel 0 and two others, or both of wheel 1
        CrankedExcuse few = Check.laid("w3,0,0;w2,0,0;p0;p0;");
        tellTeeth(few, 0, 0);
        tellTeeth(few, 1, 1);
        tellTeeth(few, 2, 0);
        tellTeeth(few, 2, 1);
        due("21 fewest ahead of lowest", few.teeth(1, -1), 2);
        due("21 fewest ahead of lowest: which", few.teeth(1, 0) * 100 + few.teeth(1, 1), 1011);
        // (0,0) (0,1) (1,2) (2,2): no other two than 0 and 12
        CrankedExcuse next = Check.laid("w4,0,0;w4,0,0;p0;p0;");
        tellTeeth(next, 0, 0);
        tellTeeth(next, 0, 1);
        tellTeeth(next, 1, 2);
        tellTeeth(next, 2, 2);
        due("21 0 and 12", next.teeth(1, -1) * 10000 + next.teeth(1, 0) * 100 + next.teeth(1, 1), 20012);
        tellTeeth(next, 1, 3);
        // (1,3) as well: 0, 1, 2 and 0, 1, 12 and 0, 12, 13 have all
        due("21 three", next.teeth(1, -1), 3);
        due("21 the lowest", next.teeth(1, 0), 0);
        due("21 then the next", next.teeth(1, 1), 1);
        due("21 then the last", next.teeth(1, 2), 2);
        tellTeeth(next, 3, 2);
        due("21 the last one is another", next.teeth(1, -1) * 100 + next.teeth(1, 2), 312);
    }

    /** "that a PERSON has HEARD": his own alone, whoever told, on whatever day */
    private static void teethEachPerson() {
        CrankedExcuse x = Check.laid("w6,1,0;p2;p0;p0;");
        x.give(1, 0);
        x.give(2, 0);
        x.give(0, 1);
        x.day();
        x.give(1, 0);
        due("21 heard by 0", x.teeth(0, -1) * 1000 + x.teeth(0, 0) * 100 + x.teeth(0, 1) * 10 + x.teeth(0, 2), 3124);
        due("21 heard by 1, to whom 0 talks", x.teeth(1, -1) * 10 + x.teeth(1, 0), 13);
        due("21 heard by 2", x.teeth(2, -1), 0);
        due("22 heard by each", x.together(0) * 100 + x.together(1) * 10 + x.together(2), 310);
    }

    /** What one asks of one person is nothing to what one asks of another one next. */
    private static void oneAfterTheOther() {
        CrankedExcuse x = Check.laid("w2,0,1;w6,1,0;w5,1,0;p0;p0;p0;");
        for (int n = 0; n < 6; n++) {
            x.give(0, 1);
        }
        x.give(0, 2);
        int[] few = {0, 6, 1};
        for (int round = 0; round < 9; round++) {
            int p = round % 3;
            int other = (round + 1 + round / 3 % 2) % 3;
            x.teeth(other, -1);
            due("21 one after the other", x.teeth(p, -1), Math.min(few[p], 1));
            x.together(other);
            due("24 one after the other, below", x.caught(p, 9, 1), few[p] == 6 ? 1000000 : 1);
            x.caught(other, 1, 0);
            due("22 one after the other", x.together(p), few[p] == 6 ? 2 : few[p]);
        }
    }

    /** Promise 22 */
    private static void together() {
        bad("22 together", Look::used, (x, n) -> x.together(n), LEAST, -1, 3, MOST);
        bad("22 nobody there", Look.laid("w2,0,0;"), (x, n) -> x.together(n), 0);
        Look.unchanged(CHECK, "22 together(1)", Look::used, x -> x.together(1));
        due("22 none heard", new CrankedExcuse().together(0), 0);
        for (int many = 1; many <= 12; many++) {
            CrankedExcuse x = told("w2,0,0;w6,1,0;w5,1,0;p0;p0;", many);
            int most = 0;
            for (int set = 0; set < 1 << many; set++) {
                if (Integer.bitCount(set) > most && stand(x, set)) {
                    most = Integer.bitCount(set);
                }
            }
            due("22 of " + many + " heard", x.together(1), most);
        }
    }

    private static boolean stand(CrankedExcuse x, int set) {
        // asked by their place, (n, n) of wheels of 6 and 5 is up behind n turns
        for (int j = 1; j <= 12; j++) {
            for (int k = 1; k < j; k++) {
                if ((set >> j - 1 & set >> k - 1 & 1) != 0 && j % 6 != k % 6 && j % 5 != k % 5) {
                    return false;
                }
            }
        }
        return true;
    }

    /** "(with one WHEEL all of them)" */
    private static void togetherOneWheel() {
        for (int t = 2; t <= 6; t++) {
            CrankedExcuse x = Check.laid("w" + t + ",1,0;p0;p0;");
            for (int many = 1; many <= t; many++) {
                x.give(0, 1);
                due("22 one wheel: all of " + many, x.together(1), many);
            }
        }
    }

    /** "no two of these have the same TOOTH of WHEEL 0, but unlike ones of each other WHEEL" */
    private static void togetherWheels() {
        CrankedExcuse two = Check.laid("w3,0,0;w3,0,0;p0;p0;");
        tellTeeth(two, 0, 0);
        tellTeeth(two, 0, 1);
        due("22 two wheels: the same of wheel 0, unlike of wheel 1", two.together(1), 1);
        tellTeeth(two, 1, 1);
        due("22 two wheels: another of wheel 0", two.together(1), 2);
        tellTeeth(two, 1, 2);
        tellTeeth(two, 2, 2);
        due("22 two wheels: one of each", two.together(1), 3);
        CrankedExcuse three = Check.laid("w2,0,0;w6,0,0;w6,0,0;p0;p0;");
        tellTeeth(three, 0, 0, 0);
        tellTeeth(three, 0, 1, 1);
        due("22 three wheels: both unlike", three.together(1), 1);
        tellTeeth(three, 0, 0, 1);
        due("22 three wheels: the third has one of each", three.together(1), 2);
        tellTeeth(three, 0, 0, 2);
        due("22 three wheels: three with one of wheel 1", three.together(1), 3);
        tellTeeth(three, 0, 2, 1);
        tellTeeth(three, 0, 3, 1);
        due("22 three wheels: four with one of wheel 2", three.together(1), 4);
        tellTeeth(three, 1, 5, 5);
        due("22 three wheels: another of wheel 0 stands with all", three.together(1), 5);
        CrankedExcuse four = Check.laid("w2,0,1;w2,0,0;w3,0,0;w3,0,0;p0;p0;");
        tellTeeth(four, 1, 0, 0, 0);
        tellTeeth(four, 1, 1, 1, 0);
        due("22 four wheels: like ones of the last", four.together(1), 2);
        tellTeeth(four, 1, 1, 1, 1);
        due("22 four wheels: unlike to one of two", four.together(1), 2);
        tellTeeth(four, 1, 0, 1, 1);
        due("22 four wheels: like to each of them", four.together(1), 3);
    }

    /** Promise 23 */
    private static void owner() {
        bad("23 none heard", Look.laid("w2,0,0;p0;p0;"), (x, n) -> x.owner(n), LEAST, -1, 0, 1, MOST);
        bad("23 two heard", Look::used, (x, n) -> x.owner(n), LEAST, -1, 2, 12, MOST);
        bad("23 twelve heard", x -> {
            Look.laid("w6,1,0;w5,1,0;p0;p0;").on(x);
            tell(x, 12);
        }, (x, n) -> x.owner(n), -1, 12);
        due("23 the first of twelve", told("w6,1,0;w5,1,0;p0;p0;", 12).owner(0), 0);
        due("23 the last of twelve", told("w6,1,0;w5,1,0;p0;p0;", 12).owner(11), 0);
        Look.unchanged(CHECK, "23 owner(1)", Look::used, x -> x.owner(1));
    }

    /** "who told that EXCUSE first, to whomever" */
    private static void ownerFirst() {
        CrankedExcuse x = Check.laid("w2,0,1;p0;p0;p0;p0;p0;");
        x.give(4, 0);
        x.give(3, 1);
        x.give(2, 3);
        x.day();
        x.give(0, 4);
        for (int k = 0; k < 4; k++) {
            due("23 the same one all the time: " + k, x.owner(k), 4);
        }
        x.undo();
        due("23 the last one undone", x.owner(3), BAD);
        CrankedExcuse y = Check.laid("w2,1,0;p0;p0;p0;");
        y.give(0, 1);
        y.give(1, 2);
        y.give(2, 0);
        y.give(1, 0);
        // 1, 0, 1, 0
        due("23 each its own first one", y.owner(0) * 1000 + y.owner(1) * 100 + y.owner(2) * 10 + y.owner(3), 101);
        CrankedExcuse one = Check.laid("w2,0,0;p0;p0;p0;");
        one.give(0, 1);
        one.undo();
        one.give(2, 1);
        due("23 what was undone is not told", one.owner(0), 2);
        CrankedExcuse teeth = told("w2,0,0;w6,1,0;p0;p0;p0;", 1);
        teeth.give(1, 2);
        due("23 one tooth alike is another excuse", teeth.owner(1), 1);
    }

    /** Promise 24: "x (0 to 10)", part 0 and 1 */
    private static void caughtBounds() {
        bad("24 caught(1, x, 0)", Look::used, (x, n) -> x.caught(1, n, 0), LEAST, -1, 11, MOST);
        bad("24 caught(1, x, 1)", Look::used, (x, n) -> x.caught(1, n, 1), -1, 11);
        bad("24 caught(p, 0, 0)", Look::used, (x, n) -> x.caught(n, 0, 0), LEAST, -1, 3, MOST);
        bad("24 caught(p, 10, 1)", Look::used, (x, n) -> x.caught(n, 10, 1), -1, 3);
        bad("24 caught(1, 5, part)", Look::used, (x, n) -> x.caught(1, 5, n), LEAST, -1, 2, MOST);
        bad("24 nobody there", Look.laid("w2,0,0;"), (x, n) -> x.caught(n, 5, 0), 0);
        Look.unchanged(CHECK, "24 caught(1, 5, 1)", Look::used, x -> x.caught(1, 5, 1));
    }

    /** "in lowest terms", for each x and each number on the list */
    private static void caughtTerms() {
        int[] above = {1, 9, 4, 7, 3, 1, 2, 3, 1, 1, 0};
        int[] below = {1, 10, 5, 10, 5, 2, 5, 10, 5, 10, 1};
        CrankedExcuse none = new CrankedExcuse();
        CrankedExcuse alone = told("w6,1,0;w2,1,0;p0;p0;", 6);
        for (int x = 0; x <= 10; x++) {
            due("24 none heard, above", none.caught(0, x, 0), 1);
            due("24 none heard, below", none.caught(0, x, 1), 1);
            due("24 six unlike, above", alone.caught(1, x, 0), 1);
            due("24 six unlike, below", alone.caught(1, x, 1), 1);
            for (int many = 1; many <= 12; many++) {
                CrankedExcuse same = told("w2,0,1;w6,1,0;w5,1,0;p0;p0;", many);
                String name = "24 " + many + " alike by " + x;
                due(name + ", above", same.caught(1, x, 0), many == 1 ? 1 : power(above[x], many));
                due(name + ", below", same.caught(1, x, 1), many == 1 ? 1 : power(below[x], many));
            }
        }
    }

    private static long power(long base, int many) {
        long all = 1;
        for (int n = 0; n < many; n++) {
            all *= base;
        }
        return all;
    }

    /** "each one whose TOOTH of WHEEL 0 another one of these has as well" */
    private static void caughtSharers() {
        IntUnaryOperator shared = many -> {
            CrankedExcuse x = told("w6,1,0;w5,1,0;p0;p0;", many);
            long below = x.caught(1, 9, 1);
            int tens = 0;
            for (; below > 1; below /= 10) {
                tens++;
            }
            return tens;
        };
        // of wheel 0: 1 2 3 4 5 0 1 2 3 4 5 0
        int[] want = {0, 0, 0, 0, 0, 0, 0, 2, 4, 6, 8, 10, 12};
        for (int many = 0; many <= 12; many++) {
            due("24 on the list of " + many, shared.applyAsInt(many), want[many]);
        }
        CrankedExcuse three = Check.laid("w2,0,0;w6,1,0;p0;p0;");
        tell(three, 3);
        three.gear(0, 1);
        tell(three, 1);
        due("24 three alike and one alone, below", three.caught(1, 9, 1), 1000);
        three.gear(0, 0);
        tell(three, 1);
        due("24 three and two alike, below", three.caught(1, 9, 1), 100000);
        CrankedExcuse others = Check.laid("w2,0,0;w6,1,0;p2;p0;p0;");
        others.give(2, 0);
        others.give(2, 1);
        others.give(0, 2);
        for (int p = 0; p < 3; p++) {
            due("24 what others heard is nothing to it", others.caught(p, 10, 0), 1);
        }
        others.day();
        others.give(1, 0);
        due("24 on another day, from another one", others.caught(0, 10, 0) * 10 + others.caught(0, 5, 1), 4);
        CrankedExcuse wheel1 = told("w6,1,0;w2,0,0;p0;p0;", 3);
        due("24 the same tooth of wheel 1", wheel1.caught(1, 10, 0), 1);
    }
}
