/**
 * Whether a call changes something: two boxes with the same calls behind them are looked at, one of which got
 * that call as well. What a look itself would change (undo, back, lay) is looked at on boxes of its own.
 */
final class Look {
    interface Steps {
        void on(CrankedExcuse x);
    }

    interface Call {
        long on(CrankedExcuse x);
    }

    interface Numbered {
        long on(CrankedExcuse x, int n);
    }

    private Look() {
    }

    /** The first text, a few calls behind it, so that a change would be seen. */
    static void used(CrankedExcuse x) {
        x.give(0, 1);
        x.give(2, 1);
        x.keep();
        x.day();
        x.file(0, 3);
        x.gear(1, 2);
        x.shown(0, 1, 1);
        x.crank();
        x.write('w');
    }

    static Steps laid(String text) {
        return x -> {
            Check.writeTo(x, text);
            x.lay();
        };
    }

    /** A call that is BAD by each of these numbers, and changes nothing. */
    static void bad(Check check, String name, Steps ahead, Numbered call, int... numbers) {
        for (int n : numbers) {
            refused(check, name + " BAD: " + n, ahead, x -> call.on(x, n), CrankedExcuse.BAD);
        }
    }

    /** A call that is refused: what it answers, and that nothing changes. */
    static void refused(Check check, String name, Steps ahead, Call call, long want) {
        CrankedExcuse x = new CrankedExcuse();
        ahead.on(x);
        check.due(name, call.on(x), want);
        unchanged(check, name, ahead, call);
    }

    static void unchanged(Check check, String name, Steps ahead, Call call) {
        same(check, name + ": nothing changes", ahead, x -> {
            ahead.on(x);
            call.on(x);
        });
    }

    /** Both ways lead to the same: all that can be seen is the same. */
    static void same(Check check, String name, Steps one, Steps other) {
        check.due(name, of(one).equals(of(other)));
    }

    /** Less than 300 calls each time. */
    private static String of(Steps ahead) {
        StringBuilder seen = new StringBuilder();
        CrankedExcuse x = after(ahead);
        state(x, seen);
        what(x, seen);
        x = after(ahead);
        for (int n = 0; n < 9; n++) {
            seen.append("\nundo ").append(x.undo());
            changing(x, seen);
        }
        x = after(ahead);
        for (int n = 0; n < 3; n++) {
            seen.append("\nback ").append(x.back());
            state(x, seen);
        }
        x = after(ahead);
        seen.append("\ntext ").append(x.fault()).append(' ').append(x.lay());
        state(x, seen);
        seen.append(' ').append(x.sensible(0)).append(' ').append(x.sell(0)).append(' ').append(x.sell(1));
        seen.append(' ').append(x.write(';')).append(' ').append(x.fault());
        return seen.toString();
    }

    private static CrankedExcuse after(Steps ahead) {
        CrankedExcuse x = new CrankedExcuse();
        ahead.on(x);
        return x;
    }

    private static void state(CrankedExcuse x, StringBuilder seen) {
        for (int n = 0; n <= 10; n++) {
            seen.append(' ').append(x.count(n));
        }
        changing(x, seen);
        int heard = x.count(5);
        for (int k = 0; k < heard; k++) {
            for (int part = 0; part < 5; part++) {
                seen.append(' ').append(x.heard(k, part));
            }
        }
    }

    private static void changing(CrankedExcuse x, StringBuilder seen) {
        for (int n = 3; n <= 6; n++) {
            seen.append(' ').append(x.count(n));
        }
        int wheels = x.count(0);
        for (int i = 0; i < wheels; i++) {
            for (int part = 0; part < 4; part++) {
                seen.append(' ').append(x.wheel(i, part));
            }
        }
    }

    private static void what(CrankedExcuse x, StringBuilder seen) {
        int wheels = x.count(0);
        for (int i = 0; i < wheels; i++) {
            seen.append(' ').append(x.gears(i)).append(' ').append(x.ask(i, 0));
        }
        int persons = x.count(1);
        for (int p = 0; p < persons; p++) {
            seen.append(' ').append(x.talks(p)).append(' ').append(x.longest(p)).append(' ').append(x.together(p));
            seen.append(' ').append(x.teeth(p, -1)).append(' ').append(x.teeth(p, 0));
            seen.append(' ').append(x.caught(p, 3, 0)).append(' ').append(x.caught(p, 3, 1));
        }
        int heard = x.count(5);
        for (int k = 0; k < heard; k++) {
            seen.append(' ').append(x.owner(k));
        }
        for (int n = 0; n < 12; n++) {
            seen.append(' ').append(x.up(n, 0)).append(' ').append(x.up(n, 1));
        }
        seen.append(' ').append(x.round()).append(' ').append(x.sensible(0)).append(' ').append(x.sensible(1));
        seen.append(' ').append(x.sell(0)).append(' ').append(x.sell(1));
        seen.append(' ').append(x.year(9, 60, 0)).append(' ').append(x.year(9, 60, 1));
    }
}
