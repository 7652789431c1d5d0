import java.math.BigInteger;

/** The edges of section 4, SHOWN to KEPT, and of promises 25 to 33, sentence by sentence. */
public final class GearEdgesTest {
    private static final Check CHECK = new Check("GearEdgesTest");
    private static final int BAD = CrankedExcuse.BAD;
    private static final int NO = CrankedExcuse.NO;
    private static final int FULL = CrankedExcuse.FULL;
    private static final int NONE = CrankedExcuse.NONE;
    private static final int MOST = Integer.MAX_VALUE;
    private static final int LEAST = Integer.MIN_VALUE;

    private static void due(String call, long got, long want) {
        CHECK.due(call, got, want);
    }

    private static void bad(String name, Look.Steps ahead, Look.Numbered call, int... numbers) {
        Look.bad(CHECK, name, ahead, call, numbers);
    }

    public static void main(String[] args) {
        shownBounds();
        shown8();
        forget();
        gears();
        gearsEach();
        gearsPAsTold();
        askBounds();
        askEach();
        sellBounds();
        sellLastTurn();
        sellWorth();
        yearBounds();
        yearPersons();
        yearAsGiven();
        yearLast12();
        yearLast12Each();
        yearSeenThrough12();
        keep2();
        kept();
        keptLast();
        backNothingUndone();
        keptHeard();
        count();
        countEnds();
        calls512();
        CHECK.end();
    }

    /** Promise 25: "TOOTH t of WHEEL i .. behind n (0 to 99) TURNS" */
    private static void shownBounds() {
        bad("25 shown(i, 0, 0)", Look::used, (x, n) -> x.shown(n, 0, 0), LEAST, -1, 3, MOST);
        bad("25 shown(2, n, 0)", Look::used, (x, n) -> x.shown(2, n, 0), LEAST, -1, 100, MOST);
        bad("25 shown(0, 0, t)", Look::used, (x, n) -> x.shown(0, 0, n), LEAST, -1, 4, MOST);
        bad("25 shown(1, 99, t)", Look::used, (x, n) -> x.shown(1, 99, n), -1, 3, 4);
        for (int many = 1; many <= 4; many++) {
            bad("25 shown(i, 0, 0) of " + many, Look.laid("w2,0,0;".repeat(many)), (x, n) -> x.shown(n, 0, 0), -1, many);
            due("25 the last of " + many, Check.laid("w2,0,0;".repeat(many)).shown(many - 1, 0, 1), 1);
        }
        for (int t = 2; t <= 6; t++) {
            CrankedExcuse x = Check.laid("w" + t + ",0,0;");
            due("25 the first turn and tooth", x.shown(0, 0, 0), 1);
            due("25 the last turn and tooth", x.shown(0, 99, t - 1), 2);
            due("25 no such tooth", x.shown(0, 99, t), BAD);
            due("25 no such turn", x.shown(0, 100, t - 1), BAD);
        }
    }

    /** "(8 at most)", FULL */
    private static void shown8() {
        Look.Steps full = x -> {
            Look.used(x);
            for (int n = 2; n <= 8; n++) {
                due("25 how many", x.shown(n % 3, n, n % 3), n);
            }
        };
        Look.refused(CHECK, "25 FULL", full, x -> x.shown(0, 0, 1), FULL);
        Look.refused(CHECK, "25 FULL: the same again", full, x -> x.shown(0, 1, 1), FULL);
        Look.refused(CHECK, "25 BAD ahead of FULL: i", full, x -> x.shown(3, 0, 0), BAD);
        Look.refused(CHECK, "25 BAD ahead of FULL: n", full, x -> x.shown(0, 100, 0), BAD);
        Look.refused(CHECK, "25 BAD ahead of FULL: t", full, x -> x.shown(0, 0, 4), BAD);
        CrankedExcuse x = Check.laid("w6,1,0;");
        for (int n = 1; n <= 8; n++) {
            due("25 the same again counts", x.shown(0, 6, 0), n);
        }
        due("25 FULL by the same", x.shown(0, 6, 0), FULL);
        due("25 the 8th counts for gears", lastShown(8), 1 << 2);
        due("25 the 9th does not", lastShown(9), 63);
    }

    /** The n-th alone tells something. */
    private static int lastShown(int many) {
        CrankedExcuse x = Check.laid("w6,1,0;");
        for (int n = 1; n < many; n++) {
            x.shown(0, 6, 0);
        }
        x.shown(0, 1, 2);
        return x.gears(0);
    }

    /** Promise 26 */
    private static void forget() {
        for (int many = 0; many <= 8; many++) {
            CrankedExcuse x = Check.laid("w6,1,0;w2,1,0;");
            for (int n = 0; n < many; n++) {
                x.shown(n % 2, n, 1);
            }
            due("26 how many were", x.forget(), many);
            due("26 nothing is shown", x.count(7), 0);
            due("26 all gears", x.gears(0) * 100 + x.gears(1), 6303);
            due("26 none to forget", x.forget(), 0);
            due("26 room again", x.shown(0, 0, 0), 1);
        }
        Look.unchanged(CHECK, "26 none", CrankedExcuse::crank, CrankedExcuse::forget);
        Look.same(CHECK, "26 nothing else goes", x -> {
            x.give(0, 1);
            x.keep();
            x.day();
        }, x -> {
            x.give(0, 1);
            x.shown(2, 2, 2);
            x.keep();
            x.day();
            x.shown(0, 1, 3);
            x.forget();
        });
    }

    /** Promise 27 */
    private static void gears() {
        bad("27 gears", Look::used, (x, n) -> x.gears(n), LEAST, -1, 3, MOST);
        for (int many = 1; many <= 4; many++) {
            bad("27 gears of " + many, Look.laid("w2,0,0;".repeat(many)), (x, n) -> x.gears(n), many);
            due("27 the last of " + many, Check.laid("w2,0,0;".repeat(many)).gears(many - 1), 3);
        }
        Look.unchanged(CHECK, "27 gears(0)", Look::used, x -> x.gears(0));
        for (int t = 2; t <= 6; t++) {
            CrankedExcuse x = Check.laid("w" + t + ",0,1;");
            due("27 nothing shown: all", x.gears(0), (1 << t) - 1);
            x.shown(0, 0, 1);
            due("27 behind no turn: all", x.gears(0), (1 << t) - 1);
            x.shown(0, t, 1);
            due("27 behind a whole round: all", x.gears(0), (1 << t) - 1);
            x.shown(0, 1, 0);
            due("27 the last A", x.gears(0), 1 << t - 1);
            x.forget();
            x.shown(0, 1, 1);
            due("27 A 0", x.gears(0), 1);
            x.forget();
            x.shown(0, 0, 0);
            due("27 behind no turn: none", x.gears(0), 0);
        }
    }

    /** "those A (bits) by which all that is SHOWN of it is so" */
    private static void gearsEach() {
        for (int t = 2; t <= 6; t++) {
            for (int p = 0; p < t; p++) {
                for (int n = 0; n <= 99; n += n == 12 ? 75 : 1) {
                    for (int tooth = 0; tooth < t; tooth++) {
                        int bits = 0;
                        for (int a = 0; a < t; a++) {
                            bits |= (p + a * n) % t == tooth ? 1 << a : 0;
                        }
                        CrankedExcuse x = Check.laid("w2,1,0;w" + t + ",1," + p + ";");
                        x.shown(1, n, tooth);
                        due("27 gears by " + tooth + " of " + t + " behind " + n, x.gears(1), bits);
                        due("27 gears of another wheel", x.gears(0), 3);
                    }
                }
            }
        }
        CrankedExcuse x = Check.laid("w6,1,0;");
        x.shown(0, 3, 0);
        due("27 one of two shown", x.gears(0), 1 + 4 + 16);
        x.shown(0, 2, 2);
        due("27 both shown", x.gears(0), 16);
        x.shown(0, 1, 1);
        due("27 three that can't be so", x.gears(0), 0);
    }

    /** "from when it was LAID .., P as told": whatever has been since */
    private static void gearsPAsTold() {
        CrankedExcuse x = Check.laid("w5,2,3;p0;p0;");
        x.shown(0, 1, 0);
        int told = x.gears(0);
        due("27 P as told", told, 1 << 2);
        x.crank();
        due("27 behind a turn", x.gears(0), told);
        x.gear(0, 4);
        due("27 another A", x.gears(0), told);
        x.give(0, 1);
        x.file(0, 0);
        x.day();
        due("27 given, filed, a day", x.gears(0), told);
        x.keep();
        x.back();
        x.undo();
        due("27 kept and come back", x.gears(0), told);
        x.lay();
        due("27 laid again: nothing shown", x.gears(0), 31);
    }

    /** Promise 28 */
    private static void askBounds() {
        bad("28 ask(i, 0)", Look::used, (x, n) -> x.ask(n, 0), LEAST, -1, 3, MOST);
        bad("28 ask(i, 1)", Look::used, (x, n) -> x.ask(n, 1), -1, 3);
        bad("28 ask(0, what)", Look::used, (x, n) -> x.ask(0, n), LEAST, -1, 2, MOST);
        Look.unchanged(CHECK, "28 ask(0, 0)", Look::used, x -> x.ask(0, 0));
        Look.unchanged(CHECK, "28 ask(2, 1)", Look::used, x -> x.ask(2, 1));
        Look.Steps none = x -> {
            Look.used(x);
            x.shown(0, 1, 2);
        };
        Look.refused(CHECK, "28 NONE: turns", none, x -> x.ask(0, 0), NONE);
        Look.refused(CHECK, "28 NONE: how many", none, x -> x.ask(0, 1), NONE);
        Look.refused(CHECK, "28 BAD ahead of NONE: -1", none, x -> x.ask(0, -1), BAD);
        Look.refused(CHECK, "28 BAD ahead of NONE: 2", none, x -> x.ask(0, 2), BAD);
        CrankedExcuse x = new CrankedExcuse();
        none.on(x);
        due("28 another wheel", x.ask(1, 0) * 10 + x.ask(1, 1), 11);
        x.forget();
        due("28 nothing shown any more", x.ask(0, 0) * 10 + x.ask(0, 1), 11);
    }

    /** "the number of TURNS (1 to 9) by which .. fewest would show the same TOOTH, at the worst, .. the lowest" */
    private static void askEach() {
        for (int t = 2; t <= 6; t++) {
            for (int tooth = 0; tooth < t; tooth++) {
                for (int n = 0; n <= 6; n++) {
                    CrankedExcuse x = Check.laid("w" + t + ",1,1;");
                    x.shown(0, n, tooth);
                    int bits = x.gears(0);
                    int best = NONE;
                    int fewest = NONE;
                    for (int turns = 9; turns >= 1 && bits != 0; turns--) {
                        int worst = worst(t, bits, turns);
                        if (best == NONE || worst <= fewest) {
                            best = turns;
                            fewest = worst;
                        }
                    }
                    due("28 turns: " + t + " " + tooth + " " + n, x.ask(0, 0), best);
                    due("28 how many: " + t + " " + tooth + " " + n, x.ask(0, 1), fewest);
                }
            }
        }
    }

    private static int worst(int t, int bits, int turns) {
        int[] show = new int[t];
        int worst = 0;
        for (int a = 0; a < t; a++) {
            show[(1 + a * turns) % t] += bits >> a & 1;
        }
        for (int many : show) {
            worst = Math.max(worst, many);
        }
        return worst;
    }

    /** Promise 29 */
    private static void sellBounds() {
        bad("29 sell", Look::used, (x, n) -> x.sell(n), LEAST, -1, 2, MOST);
        Look.unchanged(CHECK, "29 sell(0)", Look::used, x -> x.sell(0));
        Look.unchanged(CHECK, "29 sell(1)", Look::used, x -> x.sell(1));
    }

    /** "n (0 to 40)", "1 for each of these n by which what is up has SENSE" */
    private static void sellLastTurn() {
        sold("29 all have sense: the last of 40", "w2,1,0;o0,5;", 40, 45);
        sold("29 every second: the 40th", "w2,1,0;w2,0,0;x0,1,1,0;o0,5;", 40, 25);
        sold("29 every second: not the 41st", "w2,1,0;w2,0,0;x0,0,1,0;o0,5;", 39, 25);
        sold("29 what is up now is none of them", "w6,1,0;w2,0,0;x0,1,1,0;x0,2,1,0;x0,3,1,0;x0,4,1,0;x0,5,1,0;o0,7;",
                36, 13);
        sold("29 what is up by one turn is", "w6,1,5;w2,0,0;x0,1,1,0;x0,2,1,0;x0,3,1,0;x0,4,1,0;x0,5,1,0;o0,7;",
                37, 14);
        sold("29 none has sense: at once", "w2,0,1;w2,0,0;x0,1,1,0;o0,99;", 0, 99);
        sold("29 as much by each turn: at once", "w2,1,0;o1,60;", 0, 60);
        sold("29 none has sense and nothing worth", "w2,0,1;w2,0,0;x0,1,1,0;o9,0;", 0, 0);
    }

    private static void sold(String name, String text, int n, int much) {
        CrankedExcuse x = Check.laid(text);
        due(name + ": n", x.sell(0), n);
        due(name + ": as much", x.sell(1), much);
    }

    /** "V less W for each TURN so far and these (0 at least)" */
    private static void sellWorth() {
        sold("29 0 at least, sense behind it", "w2,1,0;o9,39;", 40, 40);
        sold("29 0 at least: as much as at once", "w2,1,0;o9,40;", 0, 40);
        sold("29 0 at least: less than at once", "w2,1,0;o9,41;", 0, 41);
        CrankedExcuse x = Check.laid("w2,0,1;w2,0,0;x0,1,1,0;p0;p0;o3,10;");
        int[] want = {10, 7, 4, 1, 0, 0};
        for (int n = 0; n < 6; n++) {
            due("29 for each turn so far", x.sell(0) * 100 + x.sell(1), want[n]);
            x.crank();
        }
        for (int n = 5; n >= 0; n--) {
            x.undo();
            due("29 for a turn undone no more", x.sell(1), want[n]);
        }
        x.keep();
        x.crank();
        x.day();
        x.file(0, 0);
        due("29 a day and filing are no turns", x.sell(1), 7);
        x.back();
        due("29 turns as kept", x.sell(1), 10);
        // given behind three turns: each of these counts
        CrankedExcuse y = Check.laid("w6,1,0;p0;p0;o1,99;");
        y.file(0, 1);
        y.file(0, 2);
        y.give(0, 1);
        due("29 the turns of what is given", y.sell(1), 96);
        CrankedExcuse far = Check.laid("w2,1,0;w2,0,0;x0,0,1,0;x0,1,1,0;o9,99;");
        for (int n = 0; n < 400; n++) {
            far.crank();
        }
        due("29 far worn: never less than 0", far.sell(0) * 100 + far.sell(1), 0);
    }

    /** Promise 30: "z (0 to 9999) of n (1 to 60) steps" */
    private static void yearBounds() {
        bad("30 year(z, 1, 0)", Look::used, (x, n) -> x.year(n, 1, 0), LEAST, -1, 10000, MOST);
        bad("30 year(0, n, 0)", Look::used, (x, n) -> x.year(0, n, 0), LEAST, -1, 0, 61, MOST);
        bad("30 year(0, 1, what)", Look::used, (x, n) -> x.year(0, 1, n), LEAST, -1, 2, MOST);
        String one = "w6,1,0;p0;";
        Look.refused(CHECK, "30 NO: nobody", Look.laid("w6,1,0;"), x -> x.year(0, 1, 0), NO);
        Look.refused(CHECK, "30 NO: one person", Look.laid(one), x -> x.year(9999, 60, 1), NO);
        bad("30 BAD ahead of NO: z", Look.laid(one), (x, n) -> x.year(n, 1, 0), -1, 10000);
        bad("30 BAD ahead of NO: n", Look.laid(one), (x, n) -> x.year(0, n, 0), 0, 61);
        bad("30 BAD ahead of NO: what", Look.laid(one), (x, n) -> x.year(0, 1, n), -1, 2);
        for (int what = 0; what < 2; what++) {
            int part = what;
            Look.unchanged(CHECK, "30 nothing changes by it", Look::used, x -> x.year(0, 60, part));
            Look.unchanged(CHECK, "30 nothing changes by it", Look::used, x -> x.year(9999, 1, part));
        }
        CrankedExcuse x = Check.laid("w6,1,0;w6,1,0;w5,1,0;p0;p0;");
        due("30 one step", x.year(0, 1, 0), 1);
        due("30 two steps", x.year(0, 2, 0), 2);
        due("30 sixty steps", x.year(0, 60, 0), 60);
        due("30 the last z", x.year(9999, 60, 0), 60);
        CrankedExcuse none = Check.laid("w2,1,0;w2,1,0;x0,0,1,0;x0,1,1,1;p0;p0;");
        due("30 none given", none.year(5, 60, 0) * 10 + none.year(5, 60, 1), 0);
    }

    /** "PERSON DRAW modulo how many there are gives one to the next (round)" */
    private static void yearPersons() {
        for (int many = 2; many <= 5; many++) {
            for (int z = 0; z <= 9999; z += z < 10 ? 1 : 1427) {
                // only those who may still hear the one that is left can be given it
                boolean[] heard = new boolean[many];
                int given = 0;
                CrankedExcuse x = Check.laid("w2,0,1;" + "p0;".repeat(many));
                for (int k = 0; k < 60; k++) {
                    int next = (draw(z, k) % many + 1) % many;
                    if (!heard[next]) {
                        heard[next] = true;
                        given++;
                    }
                    if (k % 7 == 0 || k == 59) {
                        due("30 who hears: " + many + " by " + z + " in " + (k + 1), x.year(z, k + 1, 0), given);
                    }
                }
            }
        }
    }

    private static int draw(int z, int k) {
        BigInteger x = BigInteger.valueOf(7919).multiply(BigInteger.valueOf(z))
                .add(BigInteger.valueOf(6151).multiply(BigInteger.valueOf(k))).add(BigInteger.ONE);
        return x.multiply(x).mod(BigInteger.valueOf(65521)).divide(BigInteger.valueOf(8)).intValue();
    }

    /**
     * As long as no more than 12 are heard, a year is as if each step were given, and each day gone by. In a
     * year one hears from one other alone: what is seen through is so by what was heard ahead of it.
     */
    private static void yearAsGiven() {
        String[] texts = {"w2,0,0;w6,1,0;w5,1,0;p0;p0;p0;", "w2,1,0;w6,1,0;p2;p0;p0;p0;",
            "w3,2,1;w6,1,0;w2,0,1;p0;p0;p4;p0;p9;",
            "w6,1,0;p0;p0;", "w2,0,0;w6,1,0;p0;p1;p0;"};
        for (String text : texts) {
            for (int z = 0; z <= 9999; z += z < 20 ? 1 : 499) {
                playedYear(text, z, x -> { });
                playedYear(text, z, GearEdgesTest::tellBack);
                playedYear(text, z, x -> {
                    tellBack(x);
                    x.day();
                });
                playedYear(text, z, x -> {
                    x.day();
                    x.crank();
                    tellBack(x);
                });
            }
        }
    }

    /** Each one hears from the one behind him, who gives him none in a year of three persons. */
    private static void tellBack(CrankedExcuse x) {
        int persons = x.count(1);
        for (int p = 0; p < persons; p++) {
            x.give((p + 1) % persons, p);
        }
    }

    private static void playedYear(String text, int z, Look.Steps ahead) {
        CrankedExcuse year = Check.laid(text);
        CrankedExcuse played = Check.laid(text);
        ahead.on(year);
        ahead.on(played);
        int persons = played.count(1);
        int heard = played.count(5);
        int seen = played.count(6);
        for (int k = 0; k < 60 && played.count(5) < 12; k++) {
            int draw = draw(z, k);
            played.give(draw % persons, (draw % persons + 1) % persons);
            if (draw / 16 % 3 == 0) {
                played.day();
            }
            String name = text + " by " + z + " in " + (k + 1);
            due("30 given: " + name, year.year(z, k + 1, 0), played.count(5) - heard);
            due("30 seen through: " + name, year.year(z, k + 1, 1), played.count(6) - seen);
        }
    }

    /** "(of what is HEARD the last 12 count)" */
    private static void yearLast12() {
        String text = "w6,1,0;w5,1,0;p2;p0;";
        for (int z = 0; z <= 9999; z += 1111) {
            CrankedExcuse twelve = Check.laid(text);
            twelve.file(0, 1);
            twelve.file(0, 4);
            twelve.file(1, 0);
            twelve.file(1, 3);
            due("30 twelve have sense", twelve.sensible(1), 12);
            due("30 all of twelve count", twelve.year(z, 60, 0), 12);
            for (int n = 0; n < 12; n++) {
                twelve.give(n % 2, 1 - n % 2);
            }
            due("30 all of twelve heard ahead count", twelve.year(z, 60, 0), 0);
            CrankedExcuse more = Check.laid(text + "x0,5,1,1;x0,2,1,2;");
            more.file(0, 0);
            more.file(0, 1);
            more.file(0, 4);
            due("30 thirteen have sense", more.sensible(1), 13);
            due("30 of thirteen the first counts no more", more.year(z, 60, 0), 60);
            for (int n = 0; n < 12; n++) {
                more.give(n % 2, 1 - n % 2);
            }
            due("30 with twelve heard ahead as well", more.year(z, 60, 0), 60);
            due("30 HEARD stays as it is", more.count(5), 12);
        }
    }

    /** The same, each step, as in the plain model: one falls out behind the other. */
    private static void yearLast12Each() {
        String[] texts = {"w6,1,0;w5,1,0;x0,5,1,1;x0,2,1,2;p0;p0;p0;", "w4,1,0;w3,1,1;w5,2,0;x0,1,1,1;p4;p0;p0;p1;",
            "w2,1,0;w6,1,3;w5,1,0;p31;p0;p0;p0;p0;", "w6,1,0;w3,1,0;w2,0,0;p2;p0;p2;", "w2,0,0;w6,1,0;w5,1,0;p0;p0;p0;",
            "w5,1,0;p0;p0;p0;", "w3,1,0;p0;p0;p0;p0;p0;", "w6,1,0;w2,1,0;p2;p0;p0;"};
        for (String text : texts) {
            for (int run = 0; run < 12; run++) {
                CrankedExcuse x = Check.laid(text);
                PlainModel model = new PlainModel();
                for (char letter : text.toCharArray()) {
                    model.write(letter);
                }
                model.lay();
                int persons = x.count(1);
                for (int n = 0; n < 12; n++) {
                    int q = (n * (run + 1) + run) % persons;
                    int p = (q + (n + run) % 2 + 1) % persons;
                    due("30 given ahead", x.give(p, q), model.give(p, q));
                    if (n == run) {
                        due("30 the day ahead", x.day(), model.day());
                    }
                }
                for (int n = 1; n <= 60; n++) {
                    String name = text + " run " + run + " in " + n;
                    due("30 given: " + name, x.year(run, n, 0), model.year(run, n, 0));
                    due("30 seen through: " + name, x.year(run, n, 1), model.year(run, n, 1));
                }
            }
        }
    }

    /** With 12 HEARD all of these count for the next one, the oldest too; behind it, it has fallen out. */
    private static void yearSeenThrough12() {
        // step 0 by z 1: person 0 gives to 1, and no day goes by; step 1 as well
        CrankedExcuse x = Check.laid("w2,0,0;w6,1,0;w5,1,0;p0;p0;p0;");
        x.give(2, 1);
        for (int n = 0; n < 11; n++) {
            x.give(0, 2);
        }
        due("30 twelve heard", x.count(5), 12);
        due("30 the draws", draw(1, 0) % 3 * 10 + draw(1, 1) % 3, 0);
        due("30 the oldest of 12 counts", x.year(1, 1, 1), 1);
        due("30 behind the next one it does not", x.year(1, 2, 1), 1);
        due("30 both are given", x.year(1, 2, 0), 2);
    }

    /** Promise 31: "2 at most" */
    private static void keep2() {
        CrankedExcuse x = new CrankedExcuse();
        due("31 nothing kept", x.count(9), 0);
        due("31 one", x.keep(), 1);
        due("31 two", x.keep(), 2);
        due("31 FULL", x.keep(), FULL);
        due("31 FULL again", x.keep(), FULL);
        due("31 two are kept", x.count(9), 2);
        x.back();
        due("31 room again", x.keep(), 2);
        due("31 FULL again", x.keep(), FULL);
        Look.refused(CHECK, "31 FULL", y -> {
            Look.used(y);
            y.give(1, 2);
            y.keep();
            y.crank();
            y.day();
        }, CrankedExcuse::keep, FULL);
    }

    /** "KEPT are WHEELS, what is FILED, HEARD, DAYS, TURNS"; not the text, not what is SHOWN */
    private static void kept() {
        Look.Steps ahead = x -> {
            x.give(0, 1);
            x.day();
            x.give(2, 1);
            x.file(1, 2);
            x.gear(2, 4);
            x.keep();
        };
        Look.same(CHECK, "32 as kept", x -> {
            ahead.on(x);
            x.back();
        }, x -> {
            ahead.on(x);
            x.undo();
            x.undo();
            x.crank();
            x.give(1, 0);
            x.give(0, 2);
            x.day();
            x.file(0, 0);
            x.file(2, 1);
            x.gear(0, 0);
            x.gear(2, 3);
            x.back();
        });
        CrankedExcuse x = new CrankedExcuse();
        ahead.on(x);
        x.shown(0, 1, 1);
        x.write('w');
        x.back();
        due("32 what is shown is not kept", x.count(7), 1);
        due("32 the text is not kept", x.count(10), 1);
        due("32 heard", x.count(5) * 10 + x.heard(1, 3), 21);
        due("32 the day", x.count(3), 1);
        due("32 filed", x.wheel(1, 3), 4);
        due("32 A", x.wheel(2, 1), 4);
    }

    /** Promise 32: "As KEPT last (it is KEPT no more then): how many are left", NO */
    private static void keptLast() {
        Look.refused(CHECK, "32 NO: none kept", x -> {
            x.give(0, 1);
            x.crank();
            x.day();
        }, CrankedExcuse::back, NO);
        Look.refused(CHECK, "32 NO: all come back", x -> {
            Look.used(x);
            x.back();
            x.crank();
        }, CrankedExcuse::back, NO);
        Look.refused(CHECK, "32 NO: laid again", x -> {
            x.keep();
            Look.laid("w2,1,0;").on(x);
            x.crank();
        }, CrankedExcuse::back, NO);
        CrankedExcuse x = new CrankedExcuse();
        x.keep();
        x.day();
        x.keep();
        x.day();
        x.day();
        due("32 one is left", x.back(), 1);
        due("32 the last one first", x.count(3), 1);
        x.day();
        due("32 kept anew", x.keep(), 2);
        x.day();
        due("32 one is left", x.back(), 1);
        due("32 the one kept anew", x.count(3), 2);
        due("32 none is left", x.back(), 0);
        due("32 the first one last", x.count(3), 0);
        due("32 NO", x.back(), NO);
        CrankedExcuse y = new CrankedExcuse();
        for (int n = 1; n <= 20; n++) {
            y.day();
            due("32 kept time and again", y.keep(), 1);
            y.crank();
            due("32 come back time and again", y.back(), 0);
            due("32 as kept", y.count(3) * 100 + y.count(4), n * 100);
        }
    }

    /** "nothing is UNDONE then" */
    private static void backNothingUndone() {
        CrankedExcuse x = new CrankedExcuse();
        for (int n = 0; n < 8; n++) {
            x.crank();
        }
        x.keep();
        due("32 kept: 8 can still be undone", x.count(8), 8);
        x.undo();
        due("32 undone, kept stays", x.count(9), 1);
        x.back();
        due("32 come back: turns", x.count(4), 8);
        due("32 come back: none can be undone", x.count(8), 0);
        due("32 come back: undo", x.undo(), NO);
        x.day();
        due("32 what is behind it can be undone", x.count(8), 1);
        due("32 no more than that", x.undo(), 0);
        due("32 as it came back", x.count(3) * 10 + x.count(4), 8);
    }

    /** What was kept is not changed by what comes behind it, nor by undoing what it was made of. */
    private static void keptHeard() {
        Look.Steps told = x -> {
            x.day();
            x.gear(0, 0);
            x.gear(1, 0);
            x.give(0, 2);
            x.give(1, 2);
        };
        CrankedExcuse x = new CrankedExcuse();
        told.on(x);
        int[] first = {8 + 12 * 2, 0, 2, 1, 0};
        int[] second = {8 + 12 * 4, 1, 2, 1, 1};
        x.keep();
        for (int n = 0; n < 5; n++) {
            x.undo();
        }
        x.crank();
        x.give(1, 0);
        x.give(2, 1);
        x.give(2, 1);
        x.back();
        due("32 heard as kept", x.count(5), 2);
        for (int part = 0; part < 5; part++) {
            due("32 heard as kept: " + part, x.heard(0, part), first[part]);
            due("32 heard as kept: " + part, x.heard(1, part), second[part]);
        }
        due("32 seen through as kept", x.count(6), 1);
        due("32 nothing behind it", x.heard(2, 0), BAD);
        x.give(0, 1);
        due("32 the next one behind it", x.heard(2, 1) * 10 + x.heard(2, 2), 1);
    }

    /** Promise 33 */
    private static void count() {
        bad("33 count", Look::used, (x, n) -> x.count(n), LEAST, -1, 11, MOST);
        for (int what = 0; what <= 10; what++) {
            int part = what;
            Look.unchanged(CHECK, "33 count(" + what + ")", Look::used, x -> x.count(part));
        }
        int[] want = {3, 3, 60, 1, 3, 2, 0, 1, 6, 1, 1};
        CrankedExcuse x = new CrankedExcuse();
        Look.used(x);
        for (int what = 0; what <= 10; what++) {
            due("33 count(" + what + ")", x.count(what), want[what]);
        }
    }

    /** The least and the most of each. */
    private static void countEnds() {
        CrankedExcuse least = Check.laid("w2,0,0;");
        int[] lowest = {1, 0, 2, 0, 0, 0, 0, 0, 0, 0, 7};
        for (int what = 0; what <= 10; what++) {
            due("33 the least of " + what, least.count(what), lowest[what]);
        }
        String text = "w6,0,0;w6,1,0;w6,0,0;w6,0,0;p0;p0;p0;p0;p0;";
        CrankedExcuse most = Check.laid(text);
        for (int p = 0; p < 4; p++) {
            for (int n = 0; n < 3; n++) {
                most.give(p, 4);
            }
        }
        // stale at first for none: 6 come, so the last two persons find none left
        due("33 heard, one wheel goes", most.count(5), 6);
        due("33 seen through: all by the second one", most.count(6), 3);
        for (int n = 0; n < 8; n++) {
            most.shown(0, 0, 0);
            most.day();
        }
        most.keep();
        most.keep();
        int[] highest = {4, 5, 1296, 8, 6, 6, 3, 8, 8, 2, text.length()};
        for (int what = 0; what <= 10; what++) {
            due("33 the most of " + what, most.count(what), highest[what]);
        }
        CrankedExcuse full = Check.laid("w2,0,0;w6,1,0;w5,1,0;p0;p0;p0;");
        full.give(0, 2);
        for (int n = 0; n < 11; n++) {
            full.give(1, 2);
        }
        due("33 12 heard", full.count(5), 12);
        due("33 11 seen through", full.count(6), 11);
        full.undo();
        due("33 10 seen through", full.count(6), 10);
    }

    /** "An object is used for at most 512 calls": each of these is answered, the last one too. */
    private static void calls512() {
        CrankedExcuse turned = new CrankedExcuse();
        CrankedExcuse days = new CrankedExcuse();
        CrankedExcuse given = Check.laid("w6,1,0;p0;p0;");
        CrankedExcuse kept = new CrankedExcuse();
        CrankedExcuse years = new CrankedExcuse();
        int year = years.year(77, 60, 0);
        for (int n = 1; n <= 511; n++) {
            due("512 calls: crank", turned.crank(), turnedBy(n));
            due("512 calls: day", days.day(), n);
            due("512 calls: keep, back", n % 2 == 1 ? kept.keep() : kept.back(), n % 2);
            due("512 calls: year", years.year(77, 60, 0), year);
        }
        due("512 calls: turns", turned.count(4), 511);
        due("512 calls: the day", days.count(3), 511);
        due("512 calls: kept", kept.count(9), 1);
        for (int n = 1; n <= 240; n++) {
            due("512 calls: give", given.give(0, 1), 1);
            due("512 calls: undo", given.undo(), 0);
        }
        due("512 calls: the text", given.count(10), 13);
        CrankedExcuse written = new CrankedExcuse();
        for (int n = 1; n <= 511; n++) {
            due("512 calls: write", written.write('w'), n <= 200 ? n : FULL);
        }
        due("512 calls: the last", written.fault(), 0);
    }

    private static int turnedBy(int n) {
        return n % 4 + 4 * ((2 + n) % 3 + 3 * (2 * n % 5));
    }
}
