/** Promises 1 to 10: boxes. */
public final class BoxesTest {
    private static final Check CHECK = new Check("BoxesTest");

    private static void due(String call, long got, long want) {
        CHECK.due(call, got, want);
    }

    public static void main(String[] args) {
        newObject();
        write();
        wipe();
        fault();
        faultOfWheels();
        faultOfClashes();
        faultOfPersonsAndWear();
        lay();
        layAgain();
        wheel();
        talks();
        heard();
        seenThrough();
        sense();
        stale();
        CHECK.end();
    }

    private static void newObject() {
        CrankedExcuse x = new CrankedExcuse();
        int[] counts = {3, 3, 60, 0, 0, 0, 0, 0, 0, 0, 0};
        for (int what = 0; what < counts.length; what++) {
            due("1 count(" + what + ")", x.count(what), counts[what]);
        }
        int[][] wheels = {{4, 1, 0, 0}, {3, 1, 2, 0}, {5, 2, 0, 0}};
        for (int i = 0; i < 3; i++) {
            for (int what = 0; what < 4; what++) {
                due("1 wheel(" + i + ", " + what + ")", x.wheel(i, what), wheels[i][what]);
            }
        }
        // x0,1,1,1 alone, x1,2,2,0 alone: tooth 1 of wheel 0, then of wheel 1, then of wheel 2
        due("1 x0,1,1,1", x.sense(1 + 4 * (1 + 3 * 1)), 0);
        due("1 x1,2,2,0", x.sense(0 + 4 * (2 + 3 * 0)), 0);
        due("1 neither", x.sense(1 + 4 * (2 + 3 * 1)), 1);
        due("1 p2", x.talks(0), 2);
        due("1 p1", x.talks(1), 1);
        due("1 p0", x.talks(2), 0);
        due("1 o2,50: new", x.sell(1), 50);
        for (int k = 0; k < 5; k++) {
            x.gear(k % 3, 0);
        }
        x.file(2, 0);
        x.crank();
        due("1 o2,50: by a turn", x.sell(1), 48);
        due("1 NO without a text", new CrankedExcuse().lay(), CrankedExcuse.NO);
        due("1 constants", CrankedExcuse.BAD == -1 && CrankedExcuse.NO == -2
                && CrankedExcuse.FULL == -3 && CrankedExcuse.NONE == -4 ? 1 : 0, 1);
    }

    private static void write() {
        CrankedExcuse x = new CrankedExcuse();
        due("2 write(31)", x.write(31), CrankedExcuse.BAD);
        due("2 write(127)", x.write(127), CrankedExcuse.BAD);
        due("2 write(-1)", x.write(-1), CrankedExcuse.BAD);
        due("2 write(least)", x.write(Integer.MIN_VALUE), CrankedExcuse.BAD);
        due("2 write(65536 + 'w')", x.write(65536 + 'w'), CrankedExcuse.BAD);
        due("2 BAD: none came", x.count(10), 0);
        due("2 write(32)", x.write(32), 1);
        due("2 write(126)", x.write(126), 2);
        for (int n = 3; n <= 200; n++) {
            due("2 letter " + n, x.write('w'), n);
        }
        due("2 the 201st", x.write('w'), CrankedExcuse.FULL);
        due("2 BAD ahead of FULL", x.write(200), CrankedExcuse.BAD);
        due("2 FULL: none came", x.count(10), 200);
        due("2 nothing is laid by it", x.count(0), 3);
    }

    private static void wipe() {
        CrankedExcuse x = Check.written("w2,0,0;");
        due("3 wipe", x.wipe(), 7);
        due("3 wipe again", x.wipe(), 0);
        due("3 empty", x.count(10), 0);
        due("3 no fault", x.fault(), CrankedExcuse.NONE);
        due("3 nothing to lay", x.lay(), CrankedExcuse.NO);
        due("3 from the first letter on again", x.write('p'), 1);
        due("3 what is laid stays", x.count(0), 3);
    }

    private static void faultAt(String text, int place) {
        due("4 fault of " + text, Check.written(text).fault(), place);
    }

    private static void fault() {
        int none = CrankedExcuse.NONE;
        faultAt("", none);
        faultAt("w2,0,0;", none);
        faultAt("w02,00,01;", none);
        faultAt("w002,0,0;", 0);
        faultAt("w2,0;", 0);
        faultAt("w2,0,0,0;", 0);
        faultAt("w2,,0;", 0);
        faultAt("w2,0,;", 0);
        faultAt("w,0,0;", 0);
        faultAt("w2,0,0", 0);
        faultAt("w2,0,", 0);
        faultAt("w2", 0);
        faultAt("w", 0);
        faultAt("w2,0,0;w", 7);
        faultAt("w2;0;0;", 0);
        faultAt("w2,0,0,", 0);
        faultAt("W2,0,0;", 0);
        faultAt("v2,0,0;", 0);
        faultAt(";", 0);
        faultAt("7;", 0);
        faultAt(" w2,0,0;", 0);
        faultAt("w 2,0,0;", 0);
        faultAt("w2,0,0 ;", 0);
        faultAt("w2,0,0; w2,0,0;", 7);
        faultAt("w2,0,0;;", 7);
        faultAt("w-2,0,0;", 0);
        faultAt("w+2,0,0;", 0);
        faultAt("w2,0,0;p99;zzz", 7);
        faultAt("w2,0,0;p1;zzz", 10);
        CrankedExcuse x = Check.written("w2,0,0;zz");
        // what an earlier text told is not told ahead in the next one
        CrankedExcuse two = Check.written("w2,0,0;w3,0,0;p0;x0,0,1,0;o9,9;");
        two.fault();
        two.wipe();
        Check.writeTo(two, "w2,0,0;x0,0,1,0;");
        due("4 told in an earlier text alone", two.fault(), 7);
        due("4 fault, asked again", x.fault() * 100 + x.fault(), 707);
        due("4 the text stays", x.count(10), 9);
        due("4 what is laid stays", x.count(0), 3);
    }

    private static void faultOfWheels() {
        int none = CrankedExcuse.NONE;
        faultAt("w6,5,5;", none);
        faultAt("w1,0,0;", 0);
        faultAt("w0,0,0;", 0);
        faultAt("w7,0,0;", 0);
        faultAt("w99,0,0;", 0);
        faultAt("w2,2,0;", 0);
        faultAt("w2,0,2;", 0);
        faultAt("w2,1,1;", none);
        faultAt("w5,4,9;", 0);
        faultAt("w2,0,0;w2,0,0;w2,0,0;w2,0,0;", none);
        faultAt("w2,0,0;w2,0,0;w2,0,0;w2,0,0;w2,0,0;", 28);
        faultAt("w2,0,0;w2,0,0;w2,0,0;p0;w2,0,0;w2,0,0;", 31);
    }

    private static void faultOfClashes() {
        int none = CrankedExcuse.NONE;
        String two = "w2,0,0;w3,0,0;";
        faultAt(two + "x0,1,1,2;", none);
        faultAt(two + "x1,2,0,1;", none);
        faultAt(two + "x0,2,1,0;", 14);
        faultAt(two + "x0,0,1,3;", 14);
        faultAt(two + "x0,0,0,1;", 14);
        faultAt(two + "x0,0,2,0;", 14);
        faultAt(two + "x2,0,0,0;", 14);
        faultAt(two + "x0,0,1;", 14);
        faultAt("w2,0,0;x0,0,1,0;w3,0,0;", 7);
        faultAt("x0,0,1,0;" + two, 0);
        StringBuilder many = new StringBuilder(two);
        for (int n = 0; n < 8; n++) {
            many.append("x0,0,1,0;");
        }
        faultAt(many.toString(), none);
        faultAt(many + "x0,0,1,0;", 14 + 72);
    }

    private static void faultOfPersonsAndWear() {
        int none = CrankedExcuse.NONE;
        faultAt("p0;", none);
        faultAt("p31;", none);
        faultAt("p32;", 0);
        faultAt("p1,2;", 0);
        faultAt("p;", 0);
        faultAt("p0;p1;p2;p4;p16;", none);
        faultAt("p0;p1;p2;p4;p16;p0;", 16);
        faultAt("o0,0;", none);
        faultAt("o9,99;", none);
        faultAt("o10,0;", 0);
        faultAt("o1,100;", 0);
        faultAt("o1;", 0);
        faultAt("o1,1;o2,2;o3,3;o4,4;o5,5;o6,6;", none);
    }

    private static void lay() {
        CrankedExcuse x = Check.written("w2,1,0;w3,1,1;p0;");
        due("5 lay", x.lay(), 2);
        due("5 the text stays", x.count(10), 17);
        due("5 wheels", x.count(0), 2);
        due("5 persons", x.count(1), 1);
        due("5 excuses", x.count(2), 6);
        due("5 up", x.up(0, 0), 2);
        due("5 1, 60 without", x.sell(1), 60);
        x.gear(0, 0);
        x.file(0, 0);
        x.crank();
        due("5 1, 60 without, by a turn", x.sell(1), 59);
        CrankedExcuse several = Check.laid("o3,9;w2,0,0;o1,7;");
        several.file(0, 0);
        due("5 the last o counts: V", several.sell(1), 7);
        several.crank();
        due("5 the last o counts: W", several.sell(1), 6);
        due("5 NO: only persons", Check.written("p0;").lay(), CrankedExcuse.NO);
        due("5 NO: empty", new CrankedExcuse().lay(), CrankedExcuse.NO);
        // reading another text leaves alone what is laid, and takes nothing along from it
        CrankedExcuse z = Check.laid("w2,1,0;w3,0,1;x0,1,1,1;p2;p0;o3,9;");
        z.wipe();
        Check.writeTo(z, "w5,2,3;");
        due("5 no fault", z.fault(), CrankedExcuse.NONE);
        due("5 laid as before", z.count(2) * 10 + z.count(1), 62);
        due("5 teeth do not go together as before", z.sense(3), 0);
        z.lay();
        due("5 nobody left", z.count(1), 0);
        due("5 all goes together", z.sensible(0), 5);
        z.file(0, 3);
        z.gear(0, 0);
        due("5 worth as without o", z.sell(1), 60);
        CrankedExcuse y = Check.written("w2,0,0;w");
        y.crank();
        y.keep();
        y.shown(0, 0, 0);
        due("5 NO: a fault", y.lay(), CrankedExcuse.NO);
        due("5 NO: nothing changes", y.count(0) * 1000 + y.count(4) * 100 + y.count(7) * 10 + y.count(9),
                3111);
        due("5 NO: what is up", y.up(0, 0), 25);
    }

    private static void layAgain() {
        CrankedExcuse x = Check.laid("w3,1,2;p0;p0;");
        x.give(0, 1);
        x.day();
        x.file(0, 1);
        x.gear(0, 2);
        x.shown(0, 1, 1);
        x.keep();
        due("5 laid again", x.lay(), 1);
        for (int what = 3; what <= 9; what++) {
            due("5 laid again: count(" + what + ")", x.count(what), 0);
        }
        due("5 laid again: A", x.wheel(0, 1), 1);
        due("5 laid again: up", x.wheel(0, 2), 2);
        due("5 laid again: filed", x.wheel(0, 3), 0);
        due("5 laid again: undo", x.undo(), CrankedExcuse.NO);
        due("5 laid again: back", x.back(), CrankedExcuse.NO);
        due("5 laid again: gears", x.gears(0), 7);
        due("5 laid again: heard", x.heard(0, 0), CrankedExcuse.BAD);
    }

    private static void wheel() {
        CrankedExcuse x = Check.laid("w6,5,4;w2,1,0;");
        x.crank();
        x.file(0, 0);
        x.file(0, 5);
        x.file(1, 1);
        x.gear(0, 3);
        int[] first = {6, 3, 3, 33};
        int[] second = {2, 1, 1, 2};
        for (int what = 0; what < 4; what++) {
            due("6 wheel(0, " + what + ")", x.wheel(0, what), first[what]);
            due("6 wheel(1, " + what + ")", x.wheel(1, what), second[what]);
        }
        due("6 wheel(2, 0)", x.wheel(2, 0), CrankedExcuse.BAD);
        due("6 wheel(-1, 0)", x.wheel(-1, 0), CrankedExcuse.BAD);
        due("6 wheel(0, 4)", x.wheel(0, 4), CrankedExcuse.BAD);
        due("6 wheel(0, -1)", x.wheel(0, -1), CrankedExcuse.BAD);
        due("6 wheel(most, 0)", x.wheel(Integer.MAX_VALUE, 0), CrankedExcuse.BAD);
    }

    private static void talks() {
        // 0 talks to himself, 2 and one who is not there; 1 to none; 2 to none; 3 to 1
        CrankedExcuse x = Check.laid("w2,0,0;p21;p0;p0;p2;");
        due("7 talks(0)", x.talks(0), 4);
        due("7 talks(1)", x.talks(1), 8);
        due("7 talks(2)", x.talks(2), 1);
        due("7 talks(3)", x.talks(3), 2);
        due("7 talks(4)", x.talks(4), CrankedExcuse.BAD);
        due("7 talks(-1)", x.talks(-1), CrankedExcuse.BAD);
        CrankedExcuse all = Check.laid("w2,0,0;p31;p31;p31;p31;p31;");
        due("7 all but the own one", all.talks(4), 15);
        due("7 nobody there", Check.laid("w2,0,0;").talks(0), CrankedExcuse.BAD);
    }

    private static void heard() {
        CrankedExcuse x = Check.laid("w3,1,0;p0;p0;p0;");
        due("8 none", x.heard(0, 0), CrankedExcuse.BAD);
        x.give(2, 1);
        x.day();
        x.give(0, 2);
        int[] first = {1, 2, 1, 0, 0};
        int[] second = {2, 0, 2, 1, 0};
        for (int what = 0; what < 5; what++) {
            due("8 heard(0, " + what + ")", x.heard(0, what), first[what]);
            due("8 heard(1, " + what + ")", x.heard(1, what), second[what]);
        }
        due("8 heard(2, 0)", x.heard(2, 0), CrankedExcuse.BAD);
        due("8 heard(-1, 0)", x.heard(-1, 0), CrankedExcuse.BAD);
        due("8 heard(0, 5)", x.heard(0, 5), CrankedExcuse.BAD);
        due("8 heard(0, -1)", x.heard(0, -1), CrankedExcuse.BAD);
    }

    private static void seenThrough() {
        // wheel 0 stands still: all that 3 hears has the same tooth of it
        CrankedExcuse x = Check.laid("w2,0,1;w6,1,0;p0;p0;p0;p0;");
        x.give(0, 3);
        due("8 the first one", x.heard(0, 4), 0);
        x.give(0, 3);
        due("8 from the same one", x.heard(1, 4), 0);
        x.give(1, 3);
        due("8 from another one", x.heard(2, 4), 1);
        x.give(0, 3);
        due("8 from another one again", x.heard(3, 4), 1);
        x.give(1, 2);
        due("8 another one hears", x.heard(4, 4), 0);
        due("8 how many", x.count(6), 2);
        x.day();
        x.give(2, 3);
        due("8 on another day", x.heard(5, 4), 0);
        x.undo();
        x.undo();
        x.gear(0, 1);
        x.give(2, 3);
        due("8 another tooth", x.heard(5, 4), 0);
        due("8 which", x.heard(5, 0) % 2, 0);
        CrankedExcuse y = Check.laid("w3,1,0;w2,0,0;p0;p0;p0;");
        y.give(0, 2);
        y.give(1, 2);
        due("8 unlike teeth of wheel 0, like ones of wheel 1", y.count(6), 0);
    }

    private static void sense() {
        CrankedExcuse x = Check.laid("w2,1,0;w3,1,0;x1,2,0,1;");
        int[] want = {1, 1, 1, 1, 1, 0};
        for (int e = 0; e < 6; e++) {
            due("9 sense(" + e + ")", x.sense(e), want[e]);
        }
        x.file(1, 1);
        due("9 filed", x.sense(2) * 10 + x.sense(3), 0);
        due("9 not filed", x.sense(1) * 10 + x.sense(4), 11);
        due("9 sense(6)", x.sense(6), CrankedExcuse.BAD);
        due("9 sense(-1)", x.sense(-1), CrankedExcuse.BAD);
        due("9 sense(least)", x.sense(Integer.MIN_VALUE), CrankedExcuse.BAD);
    }

    private static void stale() {
        // 0 and 1 talk, 1 and 2 talk; 3 alone
        CrankedExcuse x = Check.laid("w4,1,0;p2;p4;p0;p0;");
        x.give(3, 0);
        due("10 heard by himself", x.stale(1, 0), 1);
        due("10 heard by one he talks to", x.stale(1, 1), 1);
        due("10 not by friends of friends", x.stale(1, 2), 0);
        due("10 the one who told has not heard it", x.stale(1, 3), 0);
        due("10 another one", x.stale(2, 0), 0);
        due("10 stale(4, 0)", x.stale(4, 0), CrankedExcuse.BAD);
        due("10 stale(-1, 0)", x.stale(-1, 0), CrankedExcuse.BAD);
        due("10 stale(0, 4)", x.stale(0, 4), CrankedExcuse.BAD);
        due("10 stale(0, -1)", x.stale(0, -1), CrankedExcuse.BAD);
    }
}
