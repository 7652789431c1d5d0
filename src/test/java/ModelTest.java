/** Long runs of drawn calls, each compared with the plain model of the document. */
public final class ModelTest {
    private static final Check CHECK = new Check("ModelTest");
    private static final int RUNS = 8000;
    private static final int CALLS = 512;
    /** What whole() asks at the most. */
    private static final int A_LOOK = 13 + 4 * 4 + 12 * 5;
    private static final int[] WILD = {-1, -2, Integer.MIN_VALUE, Integer.MAX_VALUE, 4, 5, 6, 8, 11, 12, 31, 61,
        100, 127, 200, 1296, 10000, -65536, 1 << 20};

    private static long seed;

    private static int draw(int below) {
        seed = seed * 6364136223846793005L + 1442695040888963407L;
        return (int) ((seed >>> 33) % below);
    }

    /** Below that number mostly, now and then any. */
    private static int some(int below) {
        return draw(16) == 0 ? WILD[draw(WILD.length)] : draw(below < 1 ? 1 : below);
    }

    public static void main(String[] args) {
        for (int run = 0; run < RUNS; run++) {
            seed = 77 + run;
            CrankedExcuse x = new CrankedExcuse();
            PlainModel model = new PlainModel();
            // no more than an object is used for
            int calls = 0;
            if (draw(8) != 0) {
                calls = text(x, model, run);
            }
            // each run has calls that come more often, so that lists fill and empty
            int often = draw(33);
            int often2 = draw(4) == 0 ? draw(33) : 11;
            while (calls + 1 + A_LOOK <= CALLS) {
                int kind = draw(4) == 0 ? (draw(2) == 0 ? often : often2) : draw(33);
                if (kind == 3 && draw(4) != 0) {
                    kind = 11;
                }
                calls++;
                String name = call(x, model, run, kind);
                if (draw(12) == 0 && calls + 2 * A_LOOK <= CALLS) {
                    calls += A_LOOK;
                    whole(x, model, name);
                }
            }
            whole(x, model, "run " + run + " at its end");
        }
        CHECK.end();
    }

    private static int text(CrankedExcuse x, PlainModel model, int run) {
        String text = drawnText();
        for (char letter : text.toCharArray()) {
            CHECK.due("run " + run + " write(" + letter + ")", x.write(letter), model.write(letter));
        }
        CHECK.due("run " + run + " fault() of " + text, x.fault(), model.fault());
        CHECK.due("run " + run + " lay() of " + text, x.lay(), model.lay());
        return text.length() + 2;
    }

    private static String drawnText() {
        StringBuilder text = new StringBuilder();
        int wheels = 1 + draw(4);
        int[] teeth = new int[wheels];
        for (int i = 0; i < wheels; i++) {
            teeth[i] = 2 + draw(5);
            text.append('w').append(teeth[i]).append(',').append(draw(teeth[i])).append(',');
            text.append(draw(teeth[i])).append(';');
        }
        int clashes = wheels < 2 ? 0 : draw(9);
        for (int n = 0; n < clashes; n++) {
            int i = draw(wheels);
            int j = draw(16) == 0 ? draw(wheels) : (i + 1 + draw(wheels - 1)) % wheels;
            text.append('x').append(i).append(',').append(draw(teeth[i])).append(',').append(j);
            text.append(',').append(draw(teeth[j])).append(';');
        }
        int persons = draw(6);
        for (int p = 0; p < persons; p++) {
            text.append('p').append(draw(3) == 0 ? draw(32) : 0).append(';');
        }
        if (draw(4) != 0) {
            text.append('o').append(draw(10)).append(',').append(draw(100)).append(';');
        }
        for (int n = draw(8) == 0 ? 1 + draw(3) : 0; n > 0; n--) {
            text.setCharAt(draw(text.length()), "0123456789,;wxpo z".charAt(draw(18)));
        }
        return text.length() > 200 ? text.substring(0, 200) : text.toString();
    }

    private static String call(CrankedExcuse x, PlainModel m, int run, int kind) {
        int persons = m.count(1);
        int i = some(m.count(0));
        int tooth = some(draw(8) == 0 ? 6 : Math.max(1, m.wheel(i, 0)));
        int p = some(persons);
        int q = draw(4) == 0 ? some(persons) : (p & 7) + 1 < persons ? (p & 7) + 1 : 0;
        int k = some(m.count(5));
        int what = some(2);
        int e = some(m.count(2));
        String name = "run " + run + " kind " + kind + " (" + i + " " + tooth + " " + p + " " + q + " " + k + " "
                + what + " " + e + ")";
        if (kind < 16) {
            boxes(x, m, kind, name, new int[] {i, tooth, p, q, k, what, e});
        } else {
            others(x, m, kind, name, new int[] {i, tooth, p, q, k, what, e});
        }
        return name;
    }

    private static void boxes(CrankedExcuse x, PlainModel m, int kind, String name, int[] v) {
        int letter = some(127);
        int four = some(5);
        switch (kind) {
            case 0: CHECK.due(name, x.write(letter), m.write(letter)); break;
            case 1: if (draw(8) == 0) CHECK.due(name, x.wipe(), m.wipe()); break;
            case 2: CHECK.due(name, x.fault(), m.fault()); break;
            case 3: CHECK.due(name, x.lay(), m.lay()); break;
            case 4: CHECK.due(name, x.wheel(v[0], four), m.wheel(v[0], four)); break;
            case 5: CHECK.due(name, x.talks(v[2]), m.talks(v[2])); break;
            case 6: CHECK.due(name, x.heard(v[4], four), m.heard(v[4], four)); break;
            case 7: CHECK.due(name, x.sense(v[6]), m.sense(v[6])); break;
            case 8: CHECK.due(name, x.stale(m.heard(v[4], 0), v[2]), m.stale(m.heard(v[4], 0), v[2])); break;
            case 9: CHECK.due(name, x.stale(v[6], v[2]), m.stale(v[6], v[2])); break;
            case 10: CHECK.due(name, x.crank(), m.crank()); break;
            case 11: CHECK.due(name, x.give(v[2], v[3]), m.give(v[2], v[3])); break;
            case 12: CHECK.due(name, x.day(), m.day()); break;
            case 13: if (draw(4) == 0) CHECK.due(name, x.file(v[0], v[1]), m.file(v[0], v[1])); break;
            case 14: CHECK.due(name, x.gear(v[0], v[1]), m.gear(v[0], v[1])); break;
            default: CHECK.due(name, x.undo(), m.undo()); break;
        }
    }

    private static void others(CrankedExcuse x, PlainModel m, int kind, String name, int[] v) {
        int turns = some(draw(2) == 0 ? 100 : 10000);
        int slot = some(9) - 1;
        int ten = some(11);
        int steps = 1 + some(60);
        switch (kind) {
            case 16: CHECK.due(name, x.up(turns, v[5]), m.up(turns, v[5])); break;
            case 17: CHECK.due(name, x.round(), m.roundLength()); break;
            case 18: CHECK.due(name, x.sensible(v[5]), m.sensible(v[5])); break;
            case 19: CHECK.due(name, x.longest(v[2]), m.longest(v[2])); break;
            case 20: case 21: CHECK.due(name, x.teeth(v[2], slot), m.teeth(v[2], slot)); break;
            case 22: CHECK.due(name, x.together(v[2]), m.together(v[2])); break;
            case 23: CHECK.due(name, x.owner(v[4]), m.owner(v[4])); break;
            case 24: CHECK.due(name, x.caught(v[2], ten, v[5]), m.caught(v[2], ten, v[5])); break;
            case 25: CHECK.due(name, x.shown(v[0], turns % 101, v[1]), m.shown(v[0], turns % 101, v[1])); break;
            case 26: CHECK.due(name, x.forget(), m.forget()); break;
            case 27: CHECK.due(name, x.gears(v[0]), m.gears(v[0])); break;
            case 28: CHECK.due(name, x.ask(v[0], v[5]), m.ask(v[0], v[5])); break;
            case 29: CHECK.due(name, x.sell(v[5]), m.sell(v[5])); break;
            case 30: CHECK.due(name, x.year(turns, steps, v[5]), m.year(turns, steps, v[5])); break;
            case 31: CHECK.due(name, x.keep(), m.keep()); break;
            default: CHECK.due(name, x.back(), m.back()); break;
        }
    }

    private static void whole(CrankedExcuse x, PlainModel m, String name) {
        for (int what = -1; what <= 11; what++) {
            CHECK.due(name + " then count(" + what + ")", x.count(what), m.count(what));
        }
        for (int i = 0; i < m.count(0); i++) {
            for (int what = 0; what < 4; what++) {
                CHECK.due(name + " then wheel(" + i + ", " + what + ")", x.wheel(i, what), m.wheel(i, what));
            }
        }
        for (int k = 0; k < m.count(5); k++) {
            for (int what = 0; what < 5; what++) {
                CHECK.due(name + " then heard(" + k + ", " + what + ")", x.heard(k, what), m.heard(k, what));
            }
        }
    }
}
