/** Promises 11 to 16: turns. */
public final class TurnsTest {
    private static final Check CHECK = new Check("TurnsTest");

    private static void due(String call, long got, long want) {
        CHECK.due(call, got, want);
    }

    public static void main(String[] args) {
        crank();
        give();
        giveAmongFriends();
        giveNone();
        giveFull();
        day();
        file();
        gear();
        undo();
        undoEach();
        undoOnlyEight();
        CHECK.end();
    }

    private static void crank() {
        CrankedExcuse x = Check.laid("w2,1,0;w3,2,0;");
        int[] want = {5, 2, 1, 4, 3, 0, 5};
        for (int n = 0; n < want.length; n++) {
            due("11 crank " + n, x.crank(), want[n]);
        }
        due("11 turns", x.count(4), 7);
        CrankedExcuse y = Check.laid("w2,1,0;w2,1,0;x0,1,1,1;");
        due("11 sense or not", y.crank(), 3);
        CrankedExcuse still = Check.laid("w5,0,3;");
        due("11 A 0", still.crank(), 3);
    }

    private static void give() {
        CrankedExcuse x = Check.laid("w6,1,0;w2,0,0;x0,1,1,0;p0;p0;p0;");
        x.file(0, 2);
        due("12 the first with sense", x.give(0, 1), 3);
        due("12 as many turns", x.count(4), 3);
        due("12 one turn at least", x.give(1, 2), 4);
        due("12 another one", x.give(0, 1), 5);
        due("12 round", x.give(0, 1), 0);
        due("12 not what he has heard", x.give(2, 1), 4);
        due("12 turns", x.count(4), 10);
        due("12 heard", x.count(5), 5);
        due("12 BAD: alike", x.give(1, 1), CrankedExcuse.BAD);
        due("12 BAD: p", x.give(3, 1), CrankedExcuse.BAD);
        due("12 BAD: p less", x.give(-1, 1), CrankedExcuse.BAD);
        due("12 BAD: q", x.give(0, 3), CrankedExcuse.BAD);
        due("12 BAD: q less", x.give(0, -1), CrankedExcuse.BAD);
        due("12 BAD: nothing changes", x.count(4) * 100 + x.count(5), 1005);
    }

    private static void giveAmongFriends() {
        CrankedExcuse x = Check.laid("w4,1,0;p0;p1;p0;");
        due("12 to 0", x.give(2, 0), 1);
        due("12 to one who talks to him", x.give(2, 1), 2);
        due("12 to 0 again", x.give(2, 0), 3);
        due("12 to a third", x.give(0, 2), 0);
        due("12 the last one left for both", x.give(2, 1), 0);
        due("12 none left for both", x.give(2, 0), CrankedExcuse.NONE);
        due("12 some left for the third", x.give(0, 2), 1);
    }

    private static void giveNone() {
        CrankedExcuse x = Check.laid("w2,1,1;w2,0,0;p0;p0;");
        x.give(0, 1);
        x.give(0, 1);
        due("12 NONE", x.give(0, 1), CrankedExcuse.NONE);
        due("12 NONE: nothing is turned", x.count(4), 2);
        due("12 NONE: nothing is heard", x.count(5), 2);
        due("12 NONE: nothing to undo", x.count(8), 2);
        due("12 NONE: up as before", x.wheel(0, 2), 1);
        // what is up now comes only behind a whole round: of 6 turns, as many as there are excuses
        CrankedExcuse y = Check.laid("w2,1,0;w3,1,0;p0;p0;");
        for (int i = 0; i < 2; i++) {
            y.file(1, i + 1);
        }
        y.file(0, 1);
        due("12 behind as many turns as excuses", y.give(0, 1), 0);
        due("12 as many turns as excuses", y.count(4), 6);
        y.file(1, 0);
        due("12 NONE: all filed", y.give(1, 0), CrankedExcuse.NONE);
    }

    private static void giveFull() {
        CrankedExcuse x = Check.laid("w6,1,0;w5,1,0;p0;p0;");
        for (int n = 0; n < 12; n++) {
            due("12 given " + n, x.give(n % 2, 1 - n % 2) >= 0 ? 1 : 0, 1);
        }
        due("12 FULL", x.give(0, 1), CrankedExcuse.FULL);
        due("12 BAD ahead of FULL", x.give(1, 1), CrankedExcuse.BAD);
        due("12 FULL: nothing changes", x.count(4) * 100 + x.count(5), 1212);
        for (int t = 0; t < 6; t++) {
            x.file(0, t);
        }
        due("12 FULL ahead of NONE", x.give(0, 1), CrankedExcuse.FULL);
        for (int t = 0; t < 6; t++) {
            x.undo();
        }
        x.undo();
        due("12 room again", x.give(1, 0) >= 0 ? 1 : 0, 1);
    }

    private static void day() {
        CrankedExcuse x = new CrankedExcuse();
        due("13 day", x.day(), 1);
        due("13 day again", x.day(), 2);
        due("13 count(3)", x.count(3), 2);
        due("13 no turn", x.count(4), 0);
        due("13 can be undone", x.count(8), 2);
    }

    private static void file() {
        CrankedExcuse x = Check.laid("w3,1,0;w2,1,0;");
        due("14 file(0, 2)", x.file(0, 2), 1);
        due("14 file(0, 0)", x.file(0, 0), 2);
        due("14 file(1, 0)", x.file(1, 0), 1);
        due("14 NO", x.file(0, 2), CrankedExcuse.NO);
        due("14 file(0, 3)", x.file(0, 3), CrankedExcuse.BAD);
        due("14 file(0, -1)", x.file(0, -1), CrankedExcuse.BAD);
        due("14 file(1, 2)", x.file(1, 2), CrankedExcuse.BAD);
        due("14 file(2, 0)", x.file(2, 0), CrankedExcuse.BAD);
        due("14 file(-1, 0)", x.file(-1, 0), CrankedExcuse.BAD);
        due("14 bits", x.wheel(0, 3) * 10 + x.wheel(1, 3), 51);
        due("14 NO and BAD are not undone", x.count(8), 3);
    }

    private static void gear() {
        CrankedExcuse x = Check.laid("w5,1,0;");
        due("15 gear(0, 3)", x.gear(0, 3), 1);
        due("15 goes on by it", x.crank(), 3);
        due("15 gear(0, 0)", x.gear(0, 0), 3);
        due("15 the same again", x.gear(0, 0), 0);
        due("15 gear(0, 4)", x.gear(0, 4), 0);
        due("15 gear(0, 5)", x.gear(0, 5), CrankedExcuse.BAD);
        due("15 gear(0, -1)", x.gear(0, -1), CrankedExcuse.BAD);
        due("15 gear(1, 0)", x.gear(1, 0), CrankedExcuse.BAD);
        due("15 gear(-1, 0)", x.gear(-1, 0), CrankedExcuse.BAD);
        due("15 BAD: nothing changes", x.wheel(0, 1), 4);
        due("15 can be undone", x.count(8), 5);
    }

    private static void undo() {
        CrankedExcuse x = new CrankedExcuse();
        due("16 NO at first", x.undo(), CrankedExcuse.NO);
        x.crank();
        x.day();
        due("16 one more", x.undo(), 1);
        due("16 the day", x.count(3) * 10 + x.count(4), 1);
        due("16 none more", x.undo(), 0);
        due("16 the turn", x.count(4) * 100 + x.up(0, 0), 8);
        due("16 NO", x.undo(), CrankedExcuse.NO);
    }

    private static void undoEach() {
        CrankedExcuse x = Check.laid("w6,1,0;w2,0,0;p0;p0;");
        x.file(0, 1);
        x.gear(1, 1);
        x.file(0, 2);
        x.give(0, 1);
        due("16 by more than a turn", x.count(4), 3);
        x.shown(0, 0, 0);
        x.write('w');
        x.undo();
        due("16 the turns of what is given", x.count(4), 0);
        due("16 what is given", x.count(5), 0);
        due("16 what was up", x.up(0, 0), 0);
        due("16 what is shown stays", x.count(7), 1);
        due("16 the text stays", x.count(10), 1 + 20);
        x.undo();
        due("16 filing", x.wheel(0, 3), 2);
        x.undo();
        due("16 A", x.wheel(1, 1), 0);
        x.undo();
        due("16 the first filing", x.wheel(0, 3), 0);
        due("16 all", x.undo(), CrankedExcuse.NO);
    }

    private static void undoOnlyEight() {
        CrankedExcuse x = new CrankedExcuse();
        for (int n = 0; n < 10; n++) {
            x.day();
        }
        due("16 the last 8", x.count(8), 8);
        for (int n = 7; n >= 5; n--) {
            due("16 left", x.undo(), n);
        }
        due("16 day 7", x.count(3), 7);
        x.crank();
        x.crank();
        due("16 5 and 2", x.count(8), 7);
        for (int n = 6; n >= 0; n--) {
            due("16 left again", x.undo(), n);
        }
        due("16 day 2", x.count(3), 2);
        due("16 no more", x.undo(), CrankedExcuse.NO);
    }
}
