/** The edges of section 2, EXCUSE to UNDONE, and of promises 6 to 16, sentence by sentence. */
public final class TurnEdgesTest {
    private static final Check CHECK = new Check("TurnEdgesTest");
    private static final int BAD = CrankedExcuse.BAD;
    private static final int NO = CrankedExcuse.NO;
    private static final int FULL = CrankedExcuse.FULL;
    private static final int NONE = CrankedExcuse.NONE;
    private static final int[] FAR = {Integer.MIN_VALUE, -1000, -2, 100, 10000, 65536, Integer.MAX_VALUE};
    private static final String FOUR = "w6,1,0;w6,5,5;w6,2,3;w6,0,1;p0;p0;p0;p0;p0;";

    private static void due(String call, long got, long want) {
        CHECK.due(call, got, want);
    }

    /** All numbers that are below 0, or from a bound on, are BAD. */
    private static void badBut(String name, int below, Look.Steps ahead, Look.Numbered call) {
        bad(name, ahead, call, -1, below);
        bad(name, ahead, call, FAR);
    }

    private static void bad(String name, Look.Steps ahead, Look.Numbered call, int... numbers) {
        Look.bad(CHECK, name, ahead, call, numbers);
    }

    public static void main(String[] args) {
        excuseNumber();
        senseOfTeeth();
        turnRound();
        heard12();
        staleFor();
        staleTogether();
        givenAtLeastOneTurn();
        givenInAsManyTurns();
        givenNone();
        seenThroughEach();
        seenThroughNone();
        undone8();
        undoneAlone();
        wheel();
        talks();
        heard();
        sense();
        stale();
        crank();
        give();
        giveOrder();
        day();
        file();
        gear();
        undo();
        CHECK.end();
    }

    /** "as a number: that of WHEEL 0, and T of WHEEL 0 times (that of WHEEL 1, ..)" */
    private static void excuseNumber() {
        int[] t = {3, 2, 5, 4};
        for (int e = 0; e < 120; e++) {
            int a = e % 3;
            int b = e / 3 % 2;
            int c = e / 6 % 5;
            int d = e / 30;
            String text = "w3,0," + a + ";w2,0," + b + ";w5,0," + c + ";w4,0," + d + ";";
            due("2 number of " + text, Check.laid(text).up(0, 0), e);
        }
        int size = 1;
        String text = "";
        for (int i = 0; i < 4; i++) {
            text += "w" + t[i] + ",0," + (t[i] - 1) + ";";
            size *= t[i];
            CrankedExcuse x = Check.laid(text);
            due("2 the last number of " + text, x.up(0, 0), size - 1);
            due("2 how many of " + text, x.count(2), size);
        }
        due("2 one wheel of two teeth", Check.laid("w2,0,0;").count(2), 2);
        due("2 four wheels of six teeth", Check.laid(FOUR).count(2), 1296);
        due("2 the last one of all", Check.laid("w6,0,5;w6,0,5;w6,0,5;w6,0,5;").up(0, 0), 1295);
    }

    /** "It has SENSE, if no two of its TEETH do not go together and none is FILED." */
    private static void senseOfTeeth() {
        CrankedExcuse x = Check.laid("w2,0,0;w6,0,0;w3,0,0;x0,0,1,5;x2,2,1,0;");
        x.file(2, 1);
        for (int e = 0; e < 36; e++) {
            int a = e % 2;
            int b = e / 2 % 6;
            int c = e / 12;
            due("2 sense of " + e, x.sense(e), a == 0 && b == 5 || c == 2 && b == 0 || c == 1 ? 0 : 1);
        }
        CrankedExcuse ends = Check.laid("w6,0,0;w6,0,0;w6,0,0;w6,0,0;x0,0,3,5;x3,0,0,5;");
        due("2 first and last wheel", ends.sense(5 * 216), 0);
        due("2 last and first wheel", ends.sense(5), 0);
        due("2 one of the two alone", ends.sense(5 * 216 + 1) * 100 + ends.sense(0) * 10 + ends.sense(216 + 5), 111);
        for (int i = 0; i < 4; i++) {
            for (int tooth = 0; tooth < 6; tooth += 5) {
                CrankedExcuse one = Check.laid(FOUR);
                one.file(i, tooth);
                due("2 one tooth filed", one.sensible(0), 1296 - 216);
            }
        }
        CrankedExcuse filed = Check.laid("w2,0,0;");
        due("2 none filed", filed.sense(0) * 10 + filed.sense(1), 11);
        filed.file(0, 1);
        due("2 one filed", filed.sense(0) * 10 + filed.sense(1), 10);
        filed.file(0, 0);
        due("2 all filed", filed.sense(0) * 10 + filed.sense(1), 0);
    }

    /** "each WHEEL goes on by its A, round" */
    private static void turnRound() {
        for (int t = 2; t <= 6; t++) {
            for (int a = 0; a < t; a++) {
                for (int p = 0; p < t; p++) {
                    CrankedExcuse x = Check.laid("w2,1,1;w" + t + "," + a + "," + p + ";");
                    for (int n = 1; n <= 2 * t; n++) {
                        due("2 a turn, round", x.crank(), (1 + n) % 2 + 2 * ((p + n * a) % t));
                    }
                }
            }
        }
        CrankedExcuse x = Check.laid(FOUR);
        int[] want = {1, 4, 5, 1};
        x.crank();
        for (int i = 0; i < 4; i++) {
            due("2 a turn, each wheel", x.wheel(i, 2), want[i]);
        }
        // filing and what does not go together stop no wheel
        CrankedExcuse filed = Check.laid("w3,1,0;w3,1,0;x0,1,1,1;");
        filed.file(0, 2);
        due("2 a turn to what has no sense", filed.crank() * 100 + filed.crank(), 408);
    }

    /** "HEARD (12 at most)" */
    private static void heard12() {
        CrankedExcuse x = Check.laid(FOUR);
        for (int n = 1; n <= 12; n++) {
            due("2 the next one", x.give(n % 5, (n + 1) % 5) >= 0 ? 1 : 0, 1);
            due("2 heard " + n, x.count(5), n);
            due("2 the last one", x.heard(n - 1, 1) * 10 + x.heard(n - 1, 2), n % 5 * 10 + (n + 1) % 5);
            due("2 none behind it", x.heard(n, 0), BAD);
        }
        due("2 the 13th", x.give(0, 1), FULL);
        due("2 12 heard", x.count(5), 12);
        due("2 the first one stays", x.heard(0, 1) * 10 + x.heard(0, 2), 12);
        x.undo();
        due("2 the 12th again", x.give(3, 4) >= 0 ? 1 : 0, 1);
        due("2 the 13th again", x.give(0, 1), FULL);
    }

    /** "STALE for a PERSON, if that one, or one to whom that one talks, has HEARD it from whomever" */
    private static void staleFor() {
        // 0 and 4 talk as 0 says, 1 and 3 as 3 says, 2 alone
        CrankedExcuse x = Check.laid("w6,1,0;p16;p0;p0;p2;p0;");
        x.give(1, 0);
        x.give(2, 4);
        x.give(0, 3);
        int[][] due = {{1, 1, 0}, {0, 0, 1}, {0, 0, 0}, {0, 0, 1}, {1, 1, 0}};
        for (int p = 0; p < 5; p++) {
            for (int n = 0; n < 3; n++) {
                due("2 stale for " + p + ": " + n, x.stale(x.heard(n, 0), p), due[p][n]);
            }
            due("2 not heard by anybody", x.stale(0, p) + x.stale(4, p) + x.stale(5, p), 0);
        }
        CrankedExcuse y = Check.laid("w6,1,0;p2;p0;p0;");
        y.give(1, 0);
        due("2 from one who talks to him: himself", y.stale(1, 0), 1);
        due("2 from one who talks to him: that one", y.stale(1, 1), 1);
        y.file(0, 1);
        due("2 stale, sense or not", y.stale(1, 0), 1);
        y.day();
        due("2 stale, on another day", y.stale(1, 0), 1);
        CrankedExcuse none = Check.laid("w6,1,0;p2;p0;p0;");
        none.give(0, 1);
        none.undo();
        due("2 nothing heard", none.stale(1, 0) + none.stale(1, 1) + none.stale(1, 2), 0);
    }

    /** The first of those heard, and the last one of 12, count alike. */
    private static void staleTogether() {
        CrankedExcuse x = Check.laid("w6,1,0;w5,1,0;p0;p0;");
        for (int n = 0; n < 12; n++) {
            x.give(0, 1);
        }
        for (int k = 0; k < 12; k++) {
            due("2 the one heard, " + k, x.stale(x.heard(k, 0), 1), 1);
            due("2 the one who told, " + k, x.stale(x.heard(k, 0), 0), 0);
        }
    }

    /** "TURNS, one at least" */
    private static void givenAtLeastOneTurn() {
        CrankedExcuse x = Check.laid("w6,1,0;p0;p0;");
        due("2 what is up is none", x.give(0, 1), 1);
        due("2 one turn", x.count(4), 1);
        due("2 what he gave is up", x.up(0, 0), 1);
        due("2 the next one", x.give(0, 1), 2);
        CrankedExcuse still = Check.laid("w6,0,4;p0;p0;");
        due("2 A 0: what is up, behind a turn", still.give(0, 1), 4);
        due("2 A 0: one turn", still.count(4), 1);
    }

    /** "in as many TURNS as there are EXCUSES" */
    private static void givenInAsManyTurns() {
        // of 6 that come, what is up alone is not filed: it comes behind 6 turns
        CrankedExcuse x = Check.laid("w6,5,2;p0;p0;");
        for (int tooth = 0; tooth < 6; tooth++) {
            if (tooth != 2) {
                x.file(0, tooth);
            }
        }
        due("2 behind as many turns as excuses", x.give(0, 1), 2);
        due("2 so many turns", x.count(4), 6);
        // of 30 that come, the first alone is not stale for the one who has heard 11
        CrankedExcuse y = Check.laid("w6,1,0;w5,1,0;p0;p0;");
        for (int tooth = 0; tooth < 5; tooth++) {
            y.file(0, tooth);
        }
        int[] turns = {5, 11, 17, 23, 29};
        for (int n = 0; n < 5; n++) {
            due("2 the next one with sense", y.give(0, 1) % 6, 5);
            due("2 by so many turns", y.count(4), turns[n]);
        }
        due("2 none is left", y.give(0, 1), NONE);
        due("2 the other one", y.give(1, 0) % 6, 5);
        due("2 by so many turns", y.count(4), 35);
        CrankedExcuse two = Check.laid("w2,1,0;p0;p0;");
        two.file(0, 1);
        due("2 two excuses: behind two turns", two.give(0, 1), 0);
        due("2 two excuses: two turns", two.count(4), 2);
        CrankedExcuse most = Check.laid("w3,1,0;w4,1,0;w5,1,0;w6,5,0;p0;p0;");
        most.file(0, 1);
        most.file(0, 2);
        most.file(1, 1);
        most.file(1, 2);
        most.file(1, 3);
        for (int tooth = 1; tooth < 5; tooth++) {
            most.file(2, tooth);
        }
        due("2 behind 60 turns", most.give(0, 1), 0);
        due("2 60 turns", most.count(4), 60);
    }

    /** "none, if that does not come ..: nothing is turned then" */
    private static void givenNone() {
        Look.refused(CHECK, "2 none: all stale", x -> {
            Check.writeTo(x, "w2,1,0;p2;p0;p0;");
            x.lay();
            x.give(2, 0);
            x.give(2, 1);
            x.day();
        }, x -> x.give(2, 0), NONE);
        Look.refused(CHECK, "2 none: all filed", x -> {
            Check.writeTo(x, "w3,1,0;w2,1,0;p0;p0;");
            x.lay();
            x.file(1, 0);
            x.file(1, 1);
        }, x -> x.give(1, 0), NONE);
        Look.refused(CHECK, "2 none: what would have sense does not come", x -> {
            Check.writeTo(x, "w2,1,0;w2,1,0;x0,0,1,0;x0,1,1,1;p0;p0;");
            x.lay();
        }, x -> x.give(0, 1), NONE);
        CrankedExcuse x = Check.laid("w2,1,0;w2,1,0;x0,0,1,0;x0,1,1,1;p0;p0;");
        due("2 there are some with sense", x.sensible(0), 2);
        x.gear(1, 0);
        due("2 by another A it comes", x.give(0, 1), 1);
    }

    /** "has HEARD ahead of it on this DAY, from another one than now, an EXCUSE with the same TOOTH of WHEEL 0" */
    private static void seenThroughEach() {
        String text = "w2,0,0;w6,1,0;p0;p0;p0;p0;p0;";
        CrankedExcuse x = Check.laid(text);
        x.give(0, 4);
        due("2 seen through: the first", x.heard(0, 4), 0);
        x.give(1, 4);
        due("2 seen through: by another one", x.heard(1, 4), 1);
        due("2 seen through: the one ahead is not", x.heard(0, 4), 0);
        x.day();
        x.give(0, 4);
        due("2 seen through: on the next day", x.heard(2, 4), 0);
        x.give(0, 4);
        due("2 seen through: by the same one", x.heard(3, 4), 0);
        x.give(2, 3);
        due("2 seen through: another one hears", x.heard(4, 4), 0);
        x.give(4, 0);
        due("2 seen through: the one who told hears", x.heard(5, 4), 0);
        due("2 seen through: how many", x.count(6), 1);
        // 4 has told and heard; what he told is nothing that he heard
        CrankedExcuse told = Check.laid(text);
        told.give(4, 0);
        told.give(1, 4);
        due("2 seen through: what he told himself", told.heard(1, 4), 0);
        // friends do not make one see through it
        CrankedExcuse friends = Check.laid("w2,0,0;w6,1,0;p2;p0;p0;");
        friends.give(2, 0);
        friends.give(0, 1);
        due("2 seen through: a friend has heard", friends.heard(1, 4), 0);
        // the tooth of wheel 0, not of another one
        CrankedExcuse y = Check.laid("w6,1,0;w2,0,0;p0;p0;p0;");
        y.give(0, 2);
        y.give(1, 2);
        due("2 seen through: the same tooth of wheel 1", y.heard(1, 4), 0);
        y.gear(0, 0);
        y.gear(1, 1);
        y.give(0, 2);
        due("2 seen through: the same tooth of wheel 0", y.heard(2, 4), 1);
        due("2 seen through: tooth of wheel 0", y.heard(2, 0) % 6, 2);
        // of several ahead one is enough: the first of 12, and the last
        CrankedExcuse first = Check.laid("w3,1,0;w6,1,0;p0;p0;p0;");
        first.give(1, 2);
        first.give(0, 2);
        first.give(0, 2);
        first.give(0, 2);
        int due = first.heard(3, 0) % 3 == first.heard(0, 0) % 3 ? 1 : 0;
        due("2 seen through: the first one ahead", first.heard(3, 4), due);
        due("2 seen through: the first one ahead: so it is", due, 1);
    }

    /** "has HEARD ahead of it": with nothing heard ahead, none is seen through. */
    private static void seenThroughNone() {
        for (int tooth = 0; tooth < 6; tooth++) {
            for (int p = 0; p < 5; p++) {
                for (int q = 0; q < 5; q++) {
                    CrankedExcuse x = Check.laid("w6,0," + tooth + ";w2,0,0;p0;p0;p0;p0;p0;");
                    if (p != q) {
                        due("2 seen through: the first one of " + tooth, x.give(p, q), tooth);
                        due("2 seen through: nothing heard ahead", x.heard(0, 4) + x.count(6), 0);
                        x.undo();
                        due("2 seen through: nothing heard ahead, again", x.give(p, q) * 10 + x.heard(0, 4), tooth * 10);
                    }
                }
            }
        }
    }

    /** "UNDONE is the latest TURN, EXCUSE GIVEN, DAY, filing, A (the last 8 can be)" */
    private static void undone8() {
        Look.Call[] kinds = {CrankedExcuse::crank, x -> x.give(0, 1), CrankedExcuse::day, x -> x.file(2, 4),
            x -> x.gear(1, 2)};
        for (int kind = 0; kind < kinds.length; kind++) {
            Look.Call one = kinds[kind];
            Look.same(CHECK, "2 undone: kind " + kind, Look::used, x -> {
                Look.used(x);
                one.on(x);
                x.undo();
                // what is the oldest can't be seen to fall out here: less than 8 are undone
            });
        }
        for (int many = 0; many <= 20; many++) {
            CrankedExcuse x = Check.laid("w6,1,0;");
            for (int n = 0; n < many; n++) {
                x.crank();
                due("2 undone: can be", x.count(8), Math.min(n + 1, 8));
            }
            int can = Math.min(many, 8);
            for (int n = 1; n <= can; n++) {
                due("2 undone: how many more of " + many, x.undo(), can - n);
                due("2 undone: up", x.wheel(0, 2), (many - n) % 6);
                due("2 undone: turns", x.count(4), many - n);
            }
            due("2 undone: no more of " + many, x.undo(), NO);
            due("2 undone: what is left", x.count(4), many - can);
        }
        CrankedExcuse mixed = new CrankedExcuse();
        mixed.day();
        for (Look.Call one : kinds) {
            one.on(mixed);
        }
        mixed.day();
        mixed.day();
        due("2 undone: 8 of all kinds", mixed.count(8), 8);
        mixed.day();
        due("2 undone: the 9th", mixed.count(8), 8);
        for (int n = 7; n >= 0; n--) {
            due("2 undone: each kind", mixed.undo(), n);
        }
        due("2 undone: the first day stays", mixed.count(3), 1);
        due("2 undone: all else is as at first",
                mixed.count(4) + mixed.count(5) + mixed.wheel(2, 3) + mixed.wheel(1, 1) - 1, 0);
    }

    /** Nothing else can be undone, and nothing else is. */
    private static void undoneAlone() {
        CrankedExcuse x = new CrankedExcuse();
        Check.writeTo(x, "w2,0,0;");
        x.wipe();
        x.fault();
        x.lay();
        x.wheel(0, 0);
        x.talks(0);
        x.sense(0);
        x.stale(0, 0);
        x.up(9, 0);
        x.round();
        x.sensible(0);
        x.longest(0);
        x.teeth(0, -1);
        x.together(0);
        x.caught(0, 1, 0);
        x.shown(0, 1, 1);
        x.forget();
        x.gears(0);
        x.ask(0, 0);
        x.sell(0);
        x.year(0, 60, 0);
        x.keep();
        due("2 undone: nothing else can be", x.count(8), 0);
        due("2 undone: NO", x.undo(), NO);
        x.crank();
        Check.writeTo(x, "w2,");
        x.shown(0, 1, 1);
        x.shown(0, 1, 1);
        x.keep();
        x.undo();
        due("2 undone: not the text", x.count(10), 3);
        due("2 undone: not what is shown", x.count(7), 2);
        due("2 undone: not what is kept", x.count(9), 2);
    }

    /** Promise 6 */
    private static void wheel() {
        String text = "";
        for (int many = 1; many <= 4; many++) {
            text += "w" + (many + 2) + "," + many + ",1;";
            Look.Steps ahead = Look.laid(text);
            badBut("6 wheel(i) of " + many, many, ahead, (x, n) -> x.wheel(n, 0));
            due("6 the last wheel", Check.laid(text).wheel(many - 1, 0), many + 2);
        }
        badBut("6 wheel(0, what)", 4, Look::used, (x, n) -> x.wheel(0, n));
        badBut("6 wheel(2, what)", 4, Look::used, (x, n) -> x.wheel(2, n));
        due("6 both", new CrankedExcuse().wheel(3, 4), BAD);
        for (int what = 0; what < 4; what++) {
            int asked = what;
            Look.unchanged(CHECK, "6 wheel(1, " + what + ")", Look::used, x -> x.wheel(1, asked));
        }
        CrankedExcuse x = Check.laid(FOUR);
        for (int i = 0; i < 4; i++) {
            due("6 nothing filed", x.wheel(i, 3), 0);
        }
        for (int tooth = 0; tooth < 6; tooth++) {
            x.file(3, tooth);
            x.file(0, 5 - tooth);
            due("6 filed, as bits: wheel 3", x.wheel(3, 3), (2 << tooth) - 1);
            due("6 filed, as bits: wheel 0", x.wheel(0, 3), 63 & -(1 << 5 - tooth));
            due("6 filed, as bits: others", x.wheel(1, 3) + x.wheel(2, 3), 0);
        }
        x.gear(1, 4);
        due("6 A now", x.wheel(1, 1), 4);
        due("6 up: A changes nothing", x.wheel(1, 2), 5);
        x.crank();
        due("6 up: round", x.wheel(1, 2), 3);
        due("6 T stays", x.wheel(1, 0), 6);
    }

    /** Promise 7 */
    private static void talks() {
        String text = "w2,0,0;";
        for (int many = 0; many <= 5; many++) {
            badBut("7 talks of " + many, many, Look.laid(text), (x, n) -> x.talks(n));
            for (int p = 0; p < many; p++) {
                int one = p;
                due("7 to nobody", Check.laid(text).talks(p), 0);
                Look.unchanged(CHECK, "7 talks(" + p + ")", Look.laid(text), x -> x.talks(one));
            }
            text += "p0;";
        }
        for (int p = 0; p < 5; p++) {
            String own = "w2,0,0;" + "p0;".repeat(p) + "p" + (1 << p) + ";";
            due("7 never the own one", Check.laid(own).talks(p), 0);
        }
    }

    /** Promise 8 */
    private static void heard() {
        Look.Steps ahead = Look.laid(FOUR);
        for (int many = 0; many <= 12; many += many == 2 ? 9 : 1) {
            int given = many;
            Look.Steps told = x -> {
                ahead.on(x);
                for (int n = 0; n < given; n++) {
                    x.give(n % 2, 1 - n % 2);
                }
            };
            badBut("8 heard(k) of " + many, many, told, (x, n) -> x.heard(n, 0));
            if (many > 0) {
                badBut("8 heard(0, what)", 5, told, (x, n) -> x.heard(0, n));
                badBut("8 heard(last, what)", 5, told, (x, n) -> x.heard(given - 1, n));
                CrankedExcuse x = new CrankedExcuse();
                told.on(x);
                due("8 the last one: who told", x.heard(many - 1, 1), (many - 1) % 2);
                due("8 the last one: who heard", x.heard(many - 1, 2), many % 2);
                due("8 the last one: the excuse", x.heard(many - 1, 0), x.up(0, 0));
                Look.unchanged(CHECK, "8 heard(0, 0)", told, y -> y.heard(0, 0));
            }
        }
        CrankedExcuse x = new CrankedExcuse();
        x.give(0, 1);
        x.day();
        x.day();
        x.give(0, 1);
        due("8 the day", x.heard(0, 3) * 10 + x.heard(1, 3), 2);
    }

    /** Promise 9 */
    private static void sense() {
        String text = "";
        int size = 1;
        for (int many = 1; many <= 4; many++) {
            text += "w" + (many + 2) + ",1,0;";
            size *= many + 2;
            int all = size;
            due("9 the first one", Check.laid(text).sense(0), 1);
            due("9 the last one", Check.laid(text).sense(all - 1), 1);
            bad("9 sense of " + all, Look.laid(text), (x, n) -> x.sense(n), -1, all);
        }
        bad("9 sense", Look::used, (x, n) -> x.sense(n), Integer.MIN_VALUE, -1, 60, Integer.MAX_VALUE);
        Look.unchanged(CHECK, "9 sense(59)", Look::used, x -> x.sense(59));
    }

    /** Promise 10 */
    private static void stale() {
        bad("10 stale(e)", Look::used, (x, n) -> x.stale(n, 0), Integer.MIN_VALUE, -1, 60, Integer.MAX_VALUE);
        badBut("10 stale(0, p)", 3, Look::used, (x, n) -> x.stale(0, n));
        badBut("10 stale(59, p)", 3, Look::used, (x, n) -> x.stale(59, n));
        badBut("10 nobody there", 0, Look.laid("w2,0,0;"), (x, n) -> x.stale(0, n));
        Look.unchanged(CHECK, "10 stale(59, 2)", Look::used, x -> x.stale(59, 2));
        CrankedExcuse x = Check.laid("w2,1,0;w2,1,0;p0;p0;");
        x.give(0, 1);
        x.give(0, 1);
        due("10 the first excuse", x.stale(0, 1) * 10 + x.stale(0, 0), 10);
        due("10 the last excuse", x.stale(3, 1) * 10 + x.stale(3, 0), 10);
    }

    /** Promise 11 */
    private static void crank() {
        CrankedExcuse x = Check.laid("w6,5,0;w6,1,5;");
        due("11 back by one, on by one, both round", x.crank(), 5);
        due("11 again", x.crank(), 4 + 6);
        due("11 turns", x.count(4), 2);
        due("11 nobody hears", x.count(5), 0);
        CrankedExcuse stale = Check.laid("w2,1,0;p0;p0;");
        stale.give(0, 1);
        stale.give(0, 1);
        due("11 stale or not", stale.crank(), 1);
        CrankedExcuse filed = Check.laid("w2,1,0;");
        filed.file(0, 1);
        due("11 filed or not", filed.crank(), 1);
    }

    /** Promise 12: who may give to whom */
    private static void give() {
        for (int many = 0; many <= 5; many++) {
            Look.Steps ahead = Look.laid("w6,1,0;" + "p0;".repeat(many));
            for (int p = -1; p <= 5; p++) {
                for (int q = -1; q <= 5; q++) {
                    int one = p;
                    int other = q;
                    boolean isBad = p < 0 || q < 0 || p >= many || q >= many || p == q;
                    String name = "12 give(" + p + ", " + q + ") of " + many;
                    if (isBad) {
                        Look.refused(CHECK, name, ahead, x -> x.give(one, other), BAD);
                    } else {
                        CrankedExcuse x = new CrankedExcuse();
                        ahead.on(x);
                        due(name, x.give(p, q), 1);
                        due(name + ": who", x.heard(0, 1) * 10 + x.heard(0, 2), p * 10 + q);
                    }
                }
            }
        }
        badBut("12 give(p)", 3, Look::used, (x, n) -> x.give(n, 0));
        badBut("12 give(q)", 3, Look::used, (x, n) -> x.give(0, n));
        badBut("12 give(p, p)", 3, Look::used, (x, n) -> x.give(n, n));
    }

    /** Promise 12: BAD, then FULL, then NONE */
    private static void giveOrder() {
        Look.Steps eleven = x -> {
            Check.writeTo(x, "w6,1,0;w5,1,0;p0;p0;p0;");
            x.lay();
            for (int n = 0; n < 11; n++) {
                x.give(n % 2, 1 - n % 2);
            }
        };
        Look.Steps full = x -> {
            eleven.on(x);
            x.give(1, 0);
        };
        Look.Steps fullAndNone = x -> {
            full.on(x);
            for (int tooth = 0; tooth < 5; tooth++) {
                x.file(1, tooth);
            }
        };
        Look.Steps none = x -> {
            eleven.on(x);
            for (int tooth = 0; tooth < 5; tooth++) {
                x.file(1, tooth);
            }
        };
        CrankedExcuse x = new CrankedExcuse();
        eleven.on(x);
        due("12 the 12th is heard", x.give(1, 0) >= 0 ? 1 : 0, 1);
        Look.refused(CHECK, "12 FULL", full, y -> y.give(2, 0), FULL);
        Look.refused(CHECK, "12 FULL ahead of NONE", fullAndNone, y -> y.give(2, 0), FULL);
        Look.refused(CHECK, "12 NONE with 11 heard", none, y -> y.give(2, 0), NONE);
        Look.refused(CHECK, "12 BAD ahead of FULL: alike", full, y -> y.give(2, 2), BAD);
        Look.refused(CHECK, "12 BAD ahead of FULL: p", full, y -> y.give(3, 0), BAD);
        Look.refused(CHECK, "12 BAD ahead of FULL: q", full, y -> y.give(0, -1), BAD);
        Look.refused(CHECK, "12 BAD ahead of FULL and NONE", fullAndNone, y -> y.give(1, 1), BAD);
        Look.refused(CHECK, "12 BAD ahead of NONE", none, y -> y.give(0, 3), BAD);
        Look.refused(CHECK, "12 BAD ahead of NONE: alike", none, y -> y.give(0, 0), BAD);
    }

    /** Promise 13 */
    private static void day() {
        CrankedExcuse x = new CrankedExcuse();
        due("13 the first one is 0", x.count(3), 0);
        for (int n = 1; n <= 20; n++) {
            due("13 which it is", x.day(), n);
        }
        x.undo();
        due("13 behind one undone", x.day(), 20);
        x.keep();
        x.day();
        x.back();
        due("13 behind one come back", x.day(), 21);
    }

    /** Promise 14 */
    private static void file() {
        for (int t = 2; t <= 6; t++) {
            Look.Steps ahead = Look.laid("w" + t + ",1,0;w" + (8 - t) + ",1,0;");
            badBut("14 file(0, tooth) of " + t, t, ahead, (x, n) -> x.file(0, n));
            badBut("14 file(1, tooth) of " + (8 - t), 8 - t, ahead, (x, n) -> x.file(1, n));
            badBut("14 file(i, 0)", 2, ahead, (x, n) -> x.file(n, 0));
            CrankedExcuse x = new CrankedExcuse();
            ahead.on(x);
            for (int tooth = t - 1; tooth >= 0; tooth--) {
                due("14 how many of the wheel", x.file(0, tooth), t - tooth);
                due("14 NO", x.file(0, tooth), NO);
            }
            due("14 the other wheel's own", x.file(1, 8 - t - 1), 1);
        }
        Look.refused(CHECK, "14 NO: filed already", Look::used, x -> x.file(0, 3), NO);
        Look.refused(CHECK, "14 NO: filed already, the latest", x -> {
            Look.used(x);
            x.file(2, 0);
        }, x -> x.file(2, 0), NO);
        Look.refused(CHECK, "14 BAD ahead of NO", Look::used, x -> x.file(0, 4), BAD);
        CrankedExcuse x = new CrankedExcuse();
        x.file(0, 3);
        x.undo();
        due("14 no more filed once it is undone", x.file(0, 3), 1);
    }

    /** Promise 15 */
    private static void gear() {
        for (int t = 2; t <= 6; t++) {
            Look.Steps ahead = Look.laid("w" + t + "," + (t - 1) + ",0;w" + (8 - t) + ",1,0;");
            badBut("15 gear(0, a) of " + t, t, ahead, (x, n) -> x.gear(0, n));
            badBut("15 gear(1, a) of " + (8 - t), 8 - t, ahead, (x, n) -> x.gear(1, n));
            badBut("15 gear(i, 0)", 2, ahead, (x, n) -> x.gear(n, 0));
            CrankedExcuse x = new CrankedExcuse();
            ahead.on(x);
            int was = t - 1;
            for (int a = 0; a < t; a++) {
                due("15 which it was", x.gear(0, a), was);
                due("15 which it is", x.wheel(0, 1), a);
                due("15 the other wheel's own", x.wheel(1, 1), 1);
                was = a;
            }
        }
        CrankedExcuse x = new CrankedExcuse();
        x.gear(2, 2);
        due("15 the same again can be undone", x.count(8), 1);
        due("15 the tooth that is up stays", x.up(0, 0), 8);
    }

    /** Promise 16 */
    private static void undo() {
        Look.refused(CHECK, "16 NO: a new object", x -> { }, CrankedExcuse::undo, NO);
        Look.refused(CHECK, "16 NO: all undone", x -> {
            Look.used(x);
            for (int n = 0; n < 8; n++) {
                x.undo();
            }
        }, CrankedExcuse::undo, NO);
        Look.refused(CHECK, "16 NO: behind back()", x -> {
            Look.used(x);
            x.back();
        }, CrankedExcuse::undo, NO);
        Look.refused(CHECK, "16 NO: behind lay()", x -> {
            Check.writeTo(x, "w2,1,0;");
            x.crank();
            x.lay();
        }, CrankedExcuse::undo, NO);
        CrankedExcuse x = new CrankedExcuse();
        x.crank();
        due("16 the only one", x.undo(), 0);
        due("16 no more", x.undo(), NO);
        x.crank();
        due("16 another one", x.undo(), 0);
    }
}
