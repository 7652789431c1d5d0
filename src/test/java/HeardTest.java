/** Promises 21 to 24: what was heard. */
public final class HeardTest {
    private static final Check CHECK = new Check("HeardTest");

    private static void due(String call, long got, long want) {
        CHECK.due(call, got, want);
    }

    public static void main(String[] args) {
        teeth();
        teethLowest();
        teethOfTwoWheels();
        together();
        owner();
        caught();
        caughtOften();
        CHECK.end();
    }

    private static void teeth() {
        CrankedExcuse x = Check.laid("w6,1,5;p0;p0;");
        due("21 none heard", x.teeth(1, -1), 0);
        due("21 none heard, the first", x.teeth(1, 0), CrankedExcuse.NONE);
        for (int t = 0; t < 6; t++) {
            x.give(0, 1);
            due("21 one wheel: all", x.teeth(1, -1), t + 1);
            due("21 one wheel: the last", x.teeth(1, t), t);
        }
        due("21 behind the last", x.teeth(1, 6), CrankedExcuse.NONE);
        due("21 teeth(1, 7)", x.teeth(1, 7), CrankedExcuse.NONE);
        due("21 the other one", x.teeth(0, -1), 0);
        due("21 teeth(1, 8)", x.teeth(1, 8), CrankedExcuse.BAD);
        due("21 teeth(1, -2)", x.teeth(1, -2), CrankedExcuse.BAD);
        due("21 teeth(2, -1)", x.teeth(2, -1), CrankedExcuse.BAD);
        due("21 teeth(-1, -1)", x.teeth(-1, -1), CrankedExcuse.BAD);
    }

    private static void teethLowest() {
        // (1,1) (2,1) (3,1): tooth 1 of wheel 1
        CrankedExcuse x = Check.laid("w6,1,0;w4,0,1;p0;p0;");
        x.give(0, 1);
        due("21 the lowest tooth of several", x.teeth(1, 0), 1);
        x.give(0, 1);
        x.give(0, 1);
        due("21 one for three", x.teeth(1, -1), 1);
        due("21 which", x.teeth(1, 0), 11);
        x.gear(1, 1);
        x.give(0, 1);
        // (4,2) as well: 4 of wheel 0 and 1 of wheel 1
        due("21 two for four", x.teeth(1, -1), 2);
        due("21 the first of two", x.teeth(1, 0), 4);
        due("21 the second of two", x.teeth(1, 1), 11);
        due("21 no third", x.teeth(1, 2), CrankedExcuse.NONE);
    }

    private static void teethOfTwoWheels() {
        // (3,0) (1,0) (0,1) (0,2): 0 of wheel 0 and 0 of wheel 1
        CrankedExcuse x = Check.laid("w4,3,0;w3,0,0;p0;p0;");
        x.give(0, 1);
        x.gear(0, 2);
        x.give(0, 1);
        x.gear(0, 3);
        x.gear(1, 1);
        x.give(0, 1);
        x.gear(0, 0);
        x.give(0, 1);
        due("21 heard", x.heard(0, 0) * 1000 + x.heard(1, 0) * 100 + x.heard(2, 0) * 10 + x.heard(3, 0),
                3000 + 100 + 40 + 8);
        due("21 two", x.teeth(1, -1), 2);
        due("21 lowest first", x.teeth(1, 0), 0);
        due("21 then the next", x.teeth(1, 1), 10);
    }

    private static void together() {
        CrankedExcuse one = Check.laid("w4,1,0;p0;p0;");
        due("22 none", one.together(1), 0);
        one.give(0, 1);
        one.give(0, 1);
        one.give(0, 1);
        due("22 one wheel: all", one.together(1), 3);
        due("22 the other one", one.together(0), 0);
        due("22 together(2)", one.together(2), CrankedExcuse.BAD);
        due("22 together(-1)", one.together(-1), CrankedExcuse.BAD);
        // wheel 0 stands, both others go on: no two stand together
        CrankedExcuse x = Check.laid("w2,0,1;w3,1,0;w3,1,0;p0;p0;");
        x.give(0, 1);
        x.give(0, 1);
        x.give(0, 1);
        due("22 all unlike", x.together(1), 1);
        x.gear(1, 0);
        x.give(0, 1);
        x.give(0, 1);
        // (0,0) and two more with 0 of wheel 1 stand together, with unlike ones of wheel 2
        due("22 like ones of wheel 1", x.together(1), 3);
        x.gear(0, 1);
        x.gear(1, 1);
        x.give(0, 1);
        due("22 another tooth of wheel 0", x.together(1), 4);
    }

    private static void owner() {
        CrankedExcuse x = Check.laid("w2,0,1;w2,1,0;p0;p0;p0;p0;");
        x.give(2, 0);
        x.give(0, 1);
        x.give(1, 2);
        x.give(3, 1);
        // 3, 1, 3, 3
        due("23 heard", x.heard(0, 0) * 1000 + x.heard(1, 0) * 100 + x.heard(2, 0) * 10 + x.heard(3, 0),
                3133);
        due("23 his own", x.owner(0), 2);
        due("23 another one", x.owner(1), 0);
        due("23 told to another one first", x.owner(2), 2);
        due("23 the first of three", x.owner(3), 2);
        due("23 owner(4)", x.owner(4), CrankedExcuse.BAD);
        due("23 owner(-1)", x.owner(-1), CrankedExcuse.BAD);
    }

    private static void caught() {
        // 2, 0, 1, 2 of wheel 0
        CrankedExcuse x = Check.laid("w3,1,1;w2,1,0;p0;p0;");
        due("24 none heard", x.caught(1, 7, 0) * 10 + x.caught(1, 7, 1), 11);
        for (int n = 0; n < 4; n++) {
            x.give(0, 1);
        }
        due("24 two by 3 of ten, above", x.caught(1, 3, 0), 49);
        due("24 two by 3 of ten, below", x.caught(1, 3, 1), 100);
        due("24 two by 4 of ten, above", x.caught(1, 4, 0), 9);
        due("24 two by 4 of ten, below", x.caught(1, 4, 1), 25);
        due("24 never, above", x.caught(1, 0, 0), 1);
        due("24 never, below", x.caught(1, 0, 1), 1);
        due("24 always, above", x.caught(1, 10, 0), 0);
        due("24 always, below", x.caught(1, 10, 1), 1);
        due("24 the other one", x.caught(0, 10, 0), 1);
        due("24 caught(1, 11, 0)", x.caught(1, 11, 0), CrankedExcuse.BAD);
        due("24 caught(1, -1, 0)", x.caught(1, -1, 0), CrankedExcuse.BAD);
        due("24 caught(2, 1, 0)", x.caught(2, 1, 0), CrankedExcuse.BAD);
        due("24 caught(-1, 1, 0)", x.caught(-1, 1, 0), CrankedExcuse.BAD);
        due("24 caught(1, 1, 2)", x.caught(1, 1, 2), CrankedExcuse.BAD);
        due("24 caught(1, 1, -1)", x.caught(1, 1, -1), CrankedExcuse.BAD);
    }

    private static void caughtOften() {
        CrankedExcuse x = Check.laid("w2,0,0;w6,1,0;w5,1,0;p0;p0;");
        for (int n = 0; n < 12; n++) {
            x.give(0, 1);
        }
        due("24 twelve, above", x.caught(1, 1, 0), 282429536481L);
        due("24 twelve, below", x.caught(1, 1, 1), 1000000000000L);
    }
}
