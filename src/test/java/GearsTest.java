/** Promises 25 to 33: gears, selling, years, boxes kept. */
public final class GearsTest {
    private static final Check CHECK = new Check("GearsTest");

    private static void due(String call, long got, long want) {
        CHECK.due(call, got, want);
    }

    public static void main(String[] args) {
        shown();
        forget();
        gears();
        ask();
        sell();
        year();
        yearFromNow();
        yearSeenThrough();
        yearDraws();
        keep();
        back();
        count();
        CHECK.end();
    }

    private static void shown() {
        CrankedExcuse x = Check.laid("w3,1,0;w6,1,0;");
        due("25 shown(2, 0, 0)", x.shown(2, 0, 0), CrankedExcuse.BAD);
        due("25 shown(-1, 0, 0)", x.shown(-1, 0, 0), CrankedExcuse.BAD);
        due("25 shown(0, 100, 0)", x.shown(0, 100, 0), CrankedExcuse.BAD);
        due("25 shown(0, -1, 0)", x.shown(0, -1, 0), CrankedExcuse.BAD);
        due("25 shown(0, 0, 3)", x.shown(0, 0, 3), CrankedExcuse.BAD);
        due("25 shown(0, 0, -1)", x.shown(0, 0, -1), CrankedExcuse.BAD);
        due("25 BAD: none shown", x.count(7), 0);
        for (int n = 1; n <= 8; n++) {
            due("25 shown", x.shown(n % 2, 99, n % 3), n);
        }
        due("25 FULL", x.shown(0, 0, 0), CrankedExcuse.FULL);
        due("25 BAD ahead of FULL", x.shown(0, 0, 3), CrankedExcuse.BAD);
        due("25 FULL: no more shown", x.count(7), 8);
        due("25 nothing to undo", x.count(8), 0);
    }

    private static void forget() {
        CrankedExcuse x = Check.laid("w3,1,0;");
        due("26 none", x.forget(), 0);
        x.shown(0, 1, 2);
        x.shown(0, 2, 2);
        due("26 two", x.forget(), 2);
        due("26 none more", x.forget(), 0);
        due("26 all gears again", x.gears(0), 7);
        due("26 shown again", x.shown(0, 1, 2), 1);
        due("26 gears", x.gears(0), 4);
    }

    private static void gears() {
        CrankedExcuse x = Check.laid("w6,1,2;w4,0,3;");
        due("27 all", x.gears(0), 63);
        x.shown(0, 2, 0);
        // 2 and 2 A modulo 6 is 0: A 2, 5
        due("27 two", x.gears(0), 4 + 32);
        due("27 another wheel", x.gears(1), 15);
        x.shown(0, 3, 2);
        due("27 one", x.gears(0), 4);
        x.crank();
        x.gear(0, 3);
        due("27 P as told, whatever has turned", x.gears(0), 4);
        x.shown(1, 0, 3);
        due("27 behind no turns", x.gears(1), 15);
        x.shown(1, 0, 2);
        due("27 none", x.gears(1), 0);
        due("27 gears(2)", x.gears(2), CrankedExcuse.BAD);
        due("27 gears(-1)", x.gears(-1), CrankedExcuse.BAD);
    }

    private static void ask() {
        CrankedExcuse x = Check.laid("w6,1,2;w5,0,0;");
        due("28 all of them", x.ask(0, 0) * 10 + x.ask(0, 1), 11);
        x.shown(0, 3, 5);
        // A 1, 3, 5: by 1 turn all unlike
        due("28 odd ones", x.gears(0), 42);
        due("28 by 1", x.ask(0, 0) * 10 + x.ask(0, 1), 11);
        due("28 one wheel of several", x.ask(1, 0) * 10 + x.ask(1, 1), 11);
        x.forget();
        x.shown(0, 1, 0);
        due("28 one gear", x.ask(0, 0) * 10 + x.ask(0, 1), 11);
        x.shown(0, 1, 1);
        due("28 NONE", x.ask(0, 0), CrankedExcuse.NONE);
        due("28 NONE, how many", x.ask(0, 1), CrankedExcuse.NONE);
        due("28 BAD ahead of NONE", x.ask(0, 2), CrankedExcuse.BAD);
        due("28 ask(2, 0)", x.ask(2, 0), CrankedExcuse.BAD);
        due("28 ask(-1, 0)", x.ask(-1, 0), CrankedExcuse.BAD);
        due("28 ask(1, -1)", x.ask(1, -1), CrankedExcuse.BAD);
    }

    private static void sell() {
        // every second turn one with sense; it wears by nothing
        CrankedExcuse x = Check.laid("w2,1,0;w2,0,0;x0,1,1,0;o0,10;");
        due("29 grows", x.sell(0), 40);
        due("29 as much", x.sell(1), 30);
        x.crank();
        due("29 the lowest of several", x.sell(0), 39);
        due("29 as much", x.sell(1), 30);
        // 9 wears by 1 a turn, 1 for each: worth 9 till then, more behind
        CrankedExcuse y = Check.laid("w2,0,0;o1,9;");
        due("29 as much all the time, then more", y.sell(0) * 100 + y.sell(1), 4040);
        y.file(0, 0);
        due("29 at once", y.sell(0) * 100 + y.sell(1), 9);
        CrankedExcuse z = Check.laid("w2,0,0;o2,99;");
        due("29 new", z.sell(0) * 100 + z.sell(1), 99);
        z.crank();
        z.crank();
        due("29 worn", z.sell(0) * 100 + z.sell(1), 95);
        for (int n = 0; n < 28; n++) {
            z.crank();
        }
        // 39 now; 0 from 20 turns more on, but 40 have sense by then
        due("29 0 at least", z.sell(0) * 100 + z.sell(1), 4040);
        due("29 sell(2)", z.sell(2), CrankedExcuse.BAD);
        due("29 sell(-1)", z.sell(-1), CrankedExcuse.BAD);
        due("29 nothing is turned", z.count(4), 30);
    }

    private static void year() {
        CrankedExcuse x = Check.laid("w6,1,0;w6,1,0;w5,1,0;p0;p0;");
        due("30 one step", x.year(0, 1, 0), 1);
        due("30 sixty", x.year(9999, 60, 0), 60);
        due("30 none seen through", x.year(9999, 60, 1), 0);
        due("30 nothing changes", x.count(3) + x.count(4) + x.count(5) + x.count(6) + x.count(8), 0);
        due("30 year(-1, 1, 0)", x.year(-1, 1, 0), CrankedExcuse.BAD);
        due("30 year(10000, 1, 0)", x.year(10000, 1, 0), CrankedExcuse.BAD);
        due("30 year(0, 0, 0)", x.year(0, 0, 0), CrankedExcuse.BAD);
        due("30 year(0, 61, 0)", x.year(0, 61, 0), CrankedExcuse.BAD);
        due("30 year(0, 1, 2)", x.year(0, 1, 2), CrankedExcuse.BAD);
        due("30 year(0, 1, -1)", x.year(0, 1, -1), CrankedExcuse.BAD);
        CrankedExcuse one = Check.laid("w2,1,0;p0;");
        due("30 NO: one person", one.year(0, 1, 0), CrankedExcuse.NO);
        due("30 NO: nobody", Check.laid("w2,1,0;").year(0, 1, 0), CrankedExcuse.NO);
        due("30 BAD ahead of NO", one.year(0, 61, 0), CrankedExcuse.BAD);
        // two for each of two who do not talk
        CrankedExcuse few = Check.laid("w2,1,0;p0;p0;");
        due("30 as many as there are", few.year(3, 60, 0), 4);
        CrankedExcuse friends = Check.laid("w2,1,0;p2;p0;");
        due("30 as many as there are for friends", friends.year(3, 60, 0), 2);
        // 13 may be told: behind 12 others the first one counts no more, and comes again
        CrankedExcuse more = Check.laid("w6,1,0;w5,1,0;p2;p0;");
        due("30 the last 12 count", more.year(1, 60, 0), 60);
        CrankedExcuse twelve = Check.laid("w4,1,0;w3,1,0;p2;p0;");
        due("30 12 count", twelve.year(1, 60, 0), 12);
    }

    private static void yearFromNow() {
        CrankedExcuse x = Check.laid("w4,1,0;p0;p0;");
        due("30 from the first on", x.year(7, 60, 0), 8);
        x.give(0, 1);
        x.give(1, 0);
        due("30 less what is heard", x.year(7, 60, 0), 6);
        x.file(0, 0);
        due("30 less what is filed", x.year(7, 60, 0), 4);
        x.gear(0, 0);
        due("30 A as it is now", x.year(7, 60, 0), 1);
    }

    private static void yearSeenThrough() {
        // step 0: x is 1 for z 0, so DRAW is 0: person 0 gives to 1, and a day goes by
        CrankedExcuse x = Check.laid("w2,0,0;w6,1,0;p0;p0;p0;");
        x.give(2, 1);
        due("30 heard from another one on that day", x.year(0, 1, 1), 1);
        due("30 a day goes by behind the first step", x.year(0, 60, 1), 1);
        x.day();
        due("30 on another day", x.year(0, 1, 1), 0);
        x.undo();
        x.undo();
        x.give(0, 1);
        due("30 heard from the same one", x.year(0, 1, 1), 0);
    }

    /** z 1: DRAW is 2850, 6762, 1590, 3714: person 0 each time; a day goes by behind the third. */
    private static void yearDraws() {
        CrankedExcuse x = Check.laid("w2,0,0;w6,1,0;p0;p0;p0;");
        x.give(2, 1);
        int[] seen = {1, 2, 3, 3};
        for (int n = 1; n <= 4; n++) {
            due("30 given in " + n, x.year(1, n, 0), n);
            due("30 seen through in " + n, x.year(1, n, 1), seen[n - 1]);
        }
    }

    private static void keep() {
        CrankedExcuse x = new CrankedExcuse();
        due("31 keep", x.keep(), 1);
        due("31 keep again", x.keep(), 2);
        due("31 FULL", x.keep(), CrankedExcuse.FULL);
        due("31 two kept", x.count(9), 2);
        x.crank();
        x.keep();
        due("31 nothing undone by it", x.undo(), 0);
        due("31 room again", x.back() * 10 + x.keep(), 12);
    }

    private static void back() {
        CrankedExcuse x = Check.laid("w4,1,0;w3,1,0;p0;p0;");
        due("32 NO", x.back(), CrankedExcuse.NO);
        x.give(0, 1);
        x.day();
        x.file(1, 2);
        x.gear(0, 2);
        x.keep();
        x.give(0, 1);
        x.keep();
        x.day();
        x.file(1, 0);
        x.gear(0, 3);
        x.crank();
        x.shown(0, 1, 1);
        due("32 the last one", x.back(), 1);
        due("32 heard", x.count(5), 2);
        due("32 nothing to undo", x.undo(), CrankedExcuse.NO);
        x.crank();
        due("32 to undo again", x.count(8), 1);
        due("32 the first one", x.back(), 0);
        due("32 nothing to undo", x.count(8), 0);
        due("32 heard", x.count(5), 1);
        due("32 the day", x.count(3), 1);
        due("32 turns", x.count(4), 1);
        due("32 filed", x.wheel(1, 3), 4);
        due("32 A", x.wheel(0, 1), 2);
        due("32 up", x.up(0, 0), 5);
        due("32 what is shown stays", x.count(7), 1);
        due("32 what was heard", x.heard(0, 0), 5);
        due("32 NO again", x.back(), CrankedExcuse.NO);
    }

    private static void count() {
        CrankedExcuse x = Check.laid("w2,0,1;w5,1,0;p0;p0;p0;");
        x.give(0, 2);
        x.give(1, 2);
        x.crank();
        x.day();
        x.day();
        x.keep();
        x.shown(0, 0, 0);
        x.shown(0, 0, 0);
        x.shown(0, 0, 0);
        int[] want = {2, 3, 10, 2, 3, 2, 1, 3, 5, 1, 23};
        for (int what = 0; what < want.length; what++) {
            due("33 count(" + what + ")", x.count(what), want[what]);
        }
        due("33 count(11)", x.count(11), CrankedExcuse.BAD);
        due("33 count(-1)", x.count(-1), CrankedExcuse.BAD);
    }
}
