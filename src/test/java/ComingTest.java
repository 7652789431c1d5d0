/** Promises 17 to 20: what comes. */
public final class ComingTest {
    private static final Check CHECK = new Check("ComingTest");

    private static void due(String call, long got, long want) {
        CHECK.due(call, got, want);
    }

    public static void main(String[] args) {
        up();
        round();
        sensible();
        longest();
        CHECK.end();
    }

    private static void up() {
        CrankedExcuse x = Check.laid("w2,1,0;w3,1,0;x0,1,1,1;");
        int[] want = {0, 3, 4, 1, 2, 5};
        for (int n = 0; n < 12; n++) {
            due("17 up(" + n + ", 0)", x.up(n, 0), want[n % 6]);
            due("17 up(" + n + ", 1)", x.up(n, 1), n % 6 == 1 ? 0 : 1);
        }
        due("17 up(9999, 0)", x.up(9999, 0), want[9999 % 6]);
        due("17 nothing is turned", x.count(4) * 10 + x.up(0, 0), 0);
        x.crank();
        due("17 from now on", x.up(1, 0), 4);
        due("17 up(10000, 0)", x.up(10000, 0), CrankedExcuse.BAD);
        due("17 up(-1, 0)", x.up(-1, 0), CrankedExcuse.BAD);
        due("17 up(0, 2)", x.up(0, 2), CrankedExcuse.BAD);
        due("17 up(0, -1)", x.up(0, -1), CrankedExcuse.BAD);
        x.file(1, 0);
        due("17 filed", x.up(2, 1), 0);
        due("17 not filed", x.up(3, 1), 1);
    }

    private static void round() {
        due("18 A 0", Check.laid("w6,0,3;w5,0,0;").round(), 1);
        due("18 T by what T and A share", Check.laid("w6,4,1;").round(), 3);
        due("18 both wheels", Check.laid("w4,2,0;w6,2,0;").round(), 6);
        due("18 wheels alike", Check.laid("w4,1,0;w4,3,2;").round(), 4);
        due("18 as long as can be", Check.laid("w3,1,0;w4,1,0;w5,1,0;w6,1,0;").round(), 60);
        CrankedExcuse x = new CrankedExcuse();
        due("18 at first", x.round(), 60);
        x.gear(2, 0);
        due("18 A as it is now", x.round(), 12);
        x.file(0, 0);
        due("18 filing is nothing to it", x.round(), 12);
    }

    private static void sensible() {
        CrankedExcuse x = Check.laid("w2,1,0;w4,1,0;x0,1,1,1;x0,1,1,1;x0,0,1,0;");
        due("19 all", x.sensible(0), 6);
        // (0,0) (1,1) (0,2) (1,3)
        due("19 in a round", x.sensible(1), 2);
        x.gear(0, 0);
        due("19 in a round, one wheel still", x.sensible(1), 3);
        x.file(1, 3);
        due("19 all, one filed", x.sensible(0), 4);
        due("19 in a round, one filed", x.sensible(1), 2);
        x.file(0, 0);
        due("19 in a round, none", x.sensible(1), 0);
        due("19 sensible(2)", x.sensible(2), CrankedExcuse.BAD);
        due("19 sensible(-1)", x.sensible(-1), CrankedExcuse.BAD);
        due("19 as many as can be", Check.laid("w6,1,0;w6,1,0;w6,1,0;w6,1,0;").sensible(0), 1296);
    }

    private static void longest() {
        CrankedExcuse x = Check.laid("w6,1,0;w2,0,0;x0,0,1,0;p2;p0;p0;");
        due("20 none heard", x.longest(0), 5);
        x.give(2, 0);
        due("20 he has heard one", x.longest(0), 4);
        due("20 one who talks to him", x.longest(1), 4);
        due("20 one who does not", x.longest(2), 5);
        x.file(0, 5);
        due("20 one filed", x.longest(2), 4);
        x.gear(1, 1);
        // (1,0) (2,1) (3,0) (4,1) (5,0) (0,1): all but the one that is filed
        due("20 others come", x.longest(2), 5);
        x.gear(0, 0);
        // tooth 1 of wheel 0 stands; wheel 1 goes on: 1 (heard by 0) and 7
        due("20 few come", x.longest(2), 2);
        due("20 few come, one heard", x.longest(0), 1);
        due("20 longest(3)", x.longest(3), CrankedExcuse.BAD);
        due("20 longest(-1)", x.longest(-1), CrankedExcuse.BAD);
    }
}
