/** Compares answers with those that are due, and tells the wrong ones. */
final class Check {
    private final String name;
    private int right = 0;
    private int wrong = 0;

    Check(String name) {
        this.name = name;
    }

    void due(String call, long got, long want) {
        if (got == want) {
            right++;
        } else {
            wrong++;
            System.out.println(name + ": " + call + " answered " + got + ", due is " + want);
        }
    }

    void due(String call, boolean holds) {
        due(call, holds ? 1 : 0, 1);
    }

    /** Ends the run: exit code 1 if an answer was wrong. */
    void end() {
        System.out.println(name + ": " + right + " as due, " + wrong + " not as due");
        if (wrong > 0) {
            System.exit(1);
        }
    }

    /** A new object with a text written. */
    static CrankedExcuse written(String text) {
        CrankedExcuse x = new CrankedExcuse();
        writeTo(x, text);
        return x;
    }

    static void writeTo(CrankedExcuse x, String text) {
        for (char letter : text.toCharArray()) {
            x.write(letter);
        }
    }

    /** A new object with a text laid. */
    static CrankedExcuse laid(String text) {
        CrankedExcuse x = written(text);
        if (x.lay() < 1) {
            throw new IllegalArgumentException("no such text: " + text);
        }
        return x;
    }
}
