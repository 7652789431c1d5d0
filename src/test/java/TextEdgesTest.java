/** The edges of section 1, A TEXT, and of promises 1 to 5, sentence by sentence. */
public final class TextEdgesTest {
    private static final Check CHECK = new Check("TextEdgesTest");
    private static final int BAD = CrankedExcuse.BAD;
    private static final int NO = CrankedExcuse.NO;
    private static final int FULL = CrankedExcuse.FULL;
    private static final int NONE = CrankedExcuse.NONE;
    /** A wheel of 6 teeth and one of 4 stand ahead of each item that is tried. */
    private static final String AHEAD = "w6,0,0;w4,0,0;";
    private static final String[] ITEMS = {"w5,4,3;", "x0,5,1,3;", "p17;", "o9,8;"};

    /** One box reads text after text; a new one is taken before 512 calls are made of it. */
    private static CrankedExcuse reader = new CrankedExcuse();
    private static int calls = 0;

    private static void due(String call, long got, long want) {
        CHECK.due(call, got, want);
    }

    private static void faultAt(String sentence, String text, int place) {
        if (calls + text.length() + 2 > 512) {
            reader = new CrankedExcuse();
            calls = 0;
        }
        calls += text.length() + 2;
        reader.wipe();
        Check.writeTo(reader, text);
        due("text: " + sentence + ": " + text, reader.fault(), place);
    }

    /** The item behind two wheels is so, or is not. */
    private static void item(String sentence, String item, boolean isSo) {
        faultAt(sentence, AHEAD + item, isSo ? NONE : AHEAD.length());
    }

    public static void main(String[] args) {
        letters200();
        letterAhead();
        numbersOfOneOrTwoFigures();
        asManyNumbers();
        parted();
        semicolonBehind();
        wheelNumbers();
        wheels4();
        clashNumbers();
        clashTold();
        clashes8();
        personNumbers();
        persons5();
        personsThereOrNot();
        wearNumbers();
        wearLastCounts();
        faultIsTheFirst();
        newObject();
        write();
        wipe();
        fault();
        layNo();
        lay();
        layThenGive();
        CHECK.end();
    }

    private static String filled(String text, String item, int length) {
        StringBuilder all = new StringBuilder(text);
        while (all.length() + item.length() <= length) {
            all.append(item);
        }
        return all.toString();
    }

    /** "letters (200 at most)" */
    private static void letters200() {
        String text = filled("w2,1,0;w3,0,2;", "o1,11;", 194) + "o3,33;";
        due("text: 200 letters", text.length(), 200);
        CrankedExcuse x = Check.written(text.substring(0, 199));
        due("text: 199 letters", x.count(10), 199);
        due("text: 199 letters: the last item has no end", x.fault(), 194);
        due("text: the 200th letter", x.write(';'), 200);
        due("text: 200 letters are read", x.fault(), NONE);
        due("text: the 201st letter", x.write(';'), FULL);
        due("text: the 201st letter is none", x.fault(), NONE);
        due("text: 200 letters are laid", x.lay(), 2);
        due("text: the last of 200 letters counts", x.sell(1), 33 + 7);
        CrankedExcuse y = Check.written(filled("w2,1,0;w3,0,2;", "o1,11;", 194) + "o1,1;w");
        due("text: the place of the 200th letter", y.fault(), 199);
    }

    /** "ITEMS .. each a letter": w, x, p, o, and each has its own numbers */
    private static void letterAhead() {
        for (String good : ITEMS) {
            item("as it is", good, true);
            for (int letter = 32; letter <= 126; letter++) {
                item("its letter", (char) letter + good.substring(1), letter == good.charAt(0));
            }
            item("no letter", good.substring(1), false);
            item("two letters", good.charAt(0) + good, false);
        }
        item("nothing but the end", ";", false);
    }

    /** "numbers (one or two figures)" */
    private static void numbersOfOneOrTwoFigures() {
        for (String good : ITEMS) {
            String[] numbers = good.substring(1, good.length() - 1).split(",");
            for (int n = 0; n < numbers.length; n++) {
                item("two figures", with(good, n, numbers[n].length() < 2 ? "0" + numbers[n] : numbers[n]), true);
                item("three figures", with(good, n, "0" + (numbers[n].length() < 2 ? "0" : "") + numbers[n]), false);
                item("three figures", with(good, n, "100"), false);
                item("no figure", with(good, n, ""), false);
                for (int letter = 32; letter <= 126; letter++) {
                    boolean isFigure = letter >= '0' && letter <= '9';
                    if (!isFigure) {
                        item("no figure", with(good, n, String.valueOf((char) letter)), false);
                        item("no figure ahead", with(good, n, (char) letter + numbers[n]), false);
                        boolean isEnd = letter == ';' && n == numbers.length - 1;
                        item("no figure behind", with(good, n, numbers[n] + (isEnd ? ':' : (char) letter)), false);
                    }
                }
            }
        }
        for (int figure = 0; figure <= 9; figure++) {
            String text = "w2,0,0;o0," + figure + ";";
            due("text: one figure: " + text, Check.laid(text).sell(1) - 40, figure);
            text = "w2,0,0;o0," + figure + "0;";
            due("text: two figures: " + text, Check.laid(text).sell(1) - 40, 10 * figure);
            text = "w2,0,0;o0,0" + figure + ";";
            due("text: two figures, 0 ahead: " + text, Check.laid(text).sell(1) - 40, figure);
        }
    }

    /** The item with another n-th number. */
    private static String with(String item, int n, String number) {
        String[] numbers = item.substring(1, item.length() - 1).split(",");
        numbers[n] = number;
        return item.charAt(0) + String.join(",", numbers) + ";";
    }

    /** w three, x four, p one, o two */
    private static void asManyNumbers() {
        for (String kind : new String[] {"w", "x", "p", "o"}) {
            String numbers = "";
            for (int many = 0; many <= 6; many++) {
                int due = kind.equals("w") ? 3 : kind.equals("x") ? 4 : kind.equals("p") ? 1 : 2;
                item("as many numbers", kind + numbers + ";", many == due);
                numbers += many == 0 ? kind.equals("w") ? "2" : "0" : many == 1 ? ",0" : many == 2 ? ",1" : ",0";
            }
        }
    }

    /** "parted by ," */
    private static void parted() {
        for (String good : ITEMS) {
            for (int place = 0; place < good.length(); place++) {
                if (good.charAt(place) != ',') {
                    continue;
                }
                for (int letter = 32; letter <= 126; letter++) {
                    item("parted", good.substring(0, place) + (char) letter + good.substring(place + 1),
                            letter == ',');
                }
                item("parted twice", good.substring(0, place) + ',' + good.substring(place), false);
            }
        }
        item("parted ahead of the first", "w,5,4,3;", false);
        item("parted behind the last", "w5,4,3,;", false);
    }

    /** "and a ; behind the last one", "ITEMS one behind the other" */
    private static void semicolonBehind() {
        for (String good : ITEMS) {
            String front = good.substring(0, good.length() - 1);
            for (int letter = 32; letter <= 126; letter++) {
                // a figure there, and the last number has one more, but no end
                item("the end", front + (char) letter, letter == ';');
                faultAt("what is behind the end", AHEAD + good + (char) letter, AHEAD.length() + good.length());
            }
            for (int length = 1; length < good.length(); length++) {
                item("cut off", good.substring(0, length), false);
            }
            for (String next : ITEMS) {
                faultAt("one behind the other", AHEAD + good + next, NONE);
                faultAt("without an end ahead", AHEAD + front + next, AHEAD.length());
            }
        }
    }

    /** "T TEETH (2 to 6), .. A (0 to T less 1) .., TOOTH P (less than T)" */
    private static void wheelNumbers() {
        int[] many = {0, 1, 2, 3, 4, 5, 6, 7, 8, 10, 12, 99};
        for (int t = 0; t <= 99; t++) {
            item("T", "w" + t + ",0,0;", t >= 2 && t <= 6);
        }
        for (int t : many) {
            for (int a : many) {
                for (int p : many) {
                    boolean isSo = t >= 2 && t <= 6 && a < t && p < t;
                    String wheel = "w" + t + "," + a + "," + p + ";";
                    faultAt("T, A, P", wheel, isSo ? NONE : 0);
                    if (isSo) {
                        CrankedExcuse x = Check.laid(wheel);
                        due("text: T, A, P of " + wheel, x.wheel(0, 0) * 100 + x.wheel(0, 1) * 10 + x.wheel(0, 2),
                                t * 100 + a * 10 + p);
                    }
                }
            }
        }
    }

    /** "4 at most, 0, 1, .." */
    private static void wheels4() {
        String text = "";
        for (int n = 0; n < 4; n++) {
            String wheel = "w" + (3 + n) + "," + n + "," + (2 - n % 3) + ";";
            text += wheel;
            CrankedExcuse x = Check.laid(text);
            due("text: wheels", x.count(0), n + 1);
            for (int i = 0; i <= n; i++) {
                due("text: wheel " + i + " of " + text, x.wheel(i, 0) * 100 + x.wheel(i, 1) * 10 + x.wheel(i, 2),
                        (3 + i) * 100 + i * 10 + 2 - i % 3);
            }
        }
        faultAt("the 4th wheel", text, NONE);
        faultAt("the 5th wheel", text + "w2,0,0;", text.length());
        faultAt("the 5th wheel behind other items", text + "p0;o1,1;x0,0,3,5;w2,0,0;", text.length() + 17);
    }

    /** "xI,A,J,B TOOTH A of WHEEL I and TOOTH B of WHEEL J (unlike ..)" */
    private static void clashNumbers() {
        int[] teeth = {2, 6, 3};
        int[] wheels = {0, 1, 2, 3, 4, 10, 99};
        int[] some = {0, 1, 2, 3, 5, 6, 7, 12, 99};
        for (int i : wheels) {
            for (int a : some) {
                for (int j : wheels) {
                    for (int b : some) {
                        boolean isSo = i < 3 && j < 3 && i != j && a < teeth[i] && b < teeth[j];
                        faultAt("I, A, J, B", "w2,0,0;w6,0,0;w3,0,0;x" + i + "," + a + "," + j + "," + b + ";",
                                isSo ? NONE : 21);
                    }
                }
            }
        }
        CrankedExcuse x = Check.laid("w2,0,0;w6,0,0;w3,0,0;x2,1,1,5;");
        for (int e = 0; e < 36; e++) {
            due("text: which do not go together: " + e, x.sense(e), e / 12 == 1 && e / 2 % 6 == 5 ? 0 : 1);
        }
    }

    /** "both told ahead", "the same again as well" */
    private static void clashTold() {
        faultAt("none told ahead", "x0,0,1,0;w2,0,0;w2,0,0;", 0);
        faultAt("I told ahead alone", "w2,0,0;x0,0,1,0;w2,0,0;", 7);
        faultAt("J told ahead alone", "w2,0,0;x1,0,0,0;w2,0,0;", 7);
        faultAt("both told ahead", "w2,0,0;w2,0,0;x0,0,1,0;", NONE);
        faultAt("another wheel behind", "w2,0,0;w2,0,0;x0,0,1,0;w2,0,0;x0,0,2,0;", NONE);
        item("the same again", "x0,5,1,3;x0,5,1,3;", true);
        item("the same again, turned round", "x0,5,1,3;x1,3,0,5;", true);
        CrankedExcuse x = Check.laid("w2,0,0;w2,0,0;x0,1,1,1;x0,1,1,1;x1,1,0,1;");
        due("text: the same again is no more than once", x.sensible(0), 3);
        due("text: the same again: which", x.sense(3), 0);
    }

    /** "8 at most" */
    private static void clashes8() {
        String text = "w6,0,0;w6,0,0;";
        for (int n = 0; n < 8; n++) {
            text += "x0," + n / 2 + ",1," + n % 6 + ";";
            due("text: clashes " + (n + 1), Check.laid(text).sensible(0), 36 - n - 1);
        }
        faultAt("8 clashes", text, NONE);
        faultAt("the 9th clash", text + "x0,5,1,5;", text.length());
        faultAt("the 9th clash, the same again", text + "x0,0,1,0;", text.length());
        String same = filled("w6,0,0;w6,0,0;", "x0,0,1,0;", 14 + 8 * 9);
        faultAt("8 times the same", same, NONE);
        faultAt("9 times the same", same + "x0,0,1,0;", 14 + 8 * 9);
        faultAt("the 9th behind other items", text + "p0;o1,1;x0,5,1,5;", text.length() + 8);
    }

    /** "K (0 to 31, as bits ..)" */
    private static void personNumbers() {
        for (int k = 0; k <= 99; k++) {
            item("K", "p" + k + ";", k <= 31);
            if (k <= 31) {
                CrankedExcuse x = Check.laid("w2,0,0;p" + k + ";p0;p0;p0;p0;");
                due("text: p" + k + " talks", x.talks(0), k & 30);
                for (int q = 1; q < 5; q++) {
                    due("text: to p" + k + " " + q + " talks as well", x.talks(q), k >> q & 1);
                }
            }
        }
    }

    /** "5 at most, 0, 1, .." */
    private static void persons5() {
        String text = "w2,0,0;";
        due("text: no person", Check.laid(text).count(1), 0);
        for (int n = 1; n <= 5; n++) {
            text += "p0;";
            due("text: persons", Check.laid(text).count(1), n);
        }
        faultAt("the 5th person", text, NONE);
        faultAt("the 6th person", text + "p0;", text.length());
        faultAt("the 6th person behind other items", text + "w2,0,0;o1,1;p0;", text.length() + 12);
        CrankedExcuse x = Check.laid("p0;p4;w2,0,0;p0;p16;p0;");
        int[] talks = {0, 4, 2, 16, 8};
        for (int p = 0; p < 5; p++) {
            due("text: the persons in their order", x.talks(p), talks[p]);
        }
    }

    /** "there or not; those to whom one talks, talk to him as well" */
    private static void personsThereOrNot() {
        String text = "w2,0,0;";
        for (int n = 1; n <= 5; n++) {
            text += "p31;";
            CrankedExcuse x = Check.laid(text);
            for (int p = 0; p < n; p++) {
                due("text: those alone who are there, " + n, x.talks(p), (1 << n) - 1 & ~(1 << p));
            }
        }
        CrankedExcuse late = Check.laid("w2,0,0;p16;p0;p0;p0;p0;");
        due("text: one told behind", late.talks(0) * 100 + late.talks(4), 1601);
        CrankedExcuse back = Check.laid("w2,0,0;p0;p0;p0;p0;p1;");
        due("text: one told ahead", back.talks(0) * 100 + back.talks(4), 1601);
    }

    /** "W (0 to 9) .., V (0 to 99)" */
    private static void wearNumbers() {
        for (int n = 0; n <= 99; n++) {
            item("W", "o" + n + ",0;", n <= 9);
            item("V", "o0," + n + ";", true);
            // with all filed nothing is had but the worth
            CrankedExcuse x = Check.laid("w2,0,0;o0," + n + ";");
            x.file(0, 0);
            due("text: V " + n, x.sell(1), n);
        }
        item("V", "o0,100;", false);
        for (int w = 0; w <= 9; w++) {
            CrankedExcuse x = Check.laid("w2,0,0;o" + w + ",99;");
            x.file(0, 0);
            x.crank();
            due("text: W " + w, x.sell(1), 99 - w);
        }
    }

    /** "1, 60 without; of several such the last one counts" */
    private static void wearLastCounts() {
        String[] texts = {"w2,0,0;", "w2,0,0;o9,9;", "o9,9;w2,0,0;o0,0;", "o0,9;o9,99;w2,0,0;",
            "o2,20;o3,30;o4,40;w2,0,0;"};
        int[] worth = {60, 9, 0, 99, 40};
        int[] wear = {1, 9, 0, 9, 4};
        for (int n = 0; n < texts.length; n++) {
            CrankedExcuse x = Check.laid(texts[n]);
            x.file(0, 0);
            due("text: V of " + texts[n], x.sell(1), worth[n]);
            x.crank();
            due("text: W of " + texts[n], x.sell(1), worth[n] - wear[n]);
        }
        faultAt("as many as there is room for", filled("", "o9,9;", 200), NONE);
        faultAt("a last one that is not so", "w2,0,0;o1,1;o10,1;", 12);
    }

    /** "the place (from 0 on) of the first letter of the first ITEM that is not so" */
    private static void faultIsTheFirst() {
        faultAt("from 0 on", "w7,0,0;w2,0,0;", 0);
        faultAt("the first of two", "w2,0,0;w7,0,0;w8,0,0;", 7);
        faultAt("the first letter, not the wrong one", "w2,0,0;w2,0,9;", 7);
        faultAt("the first letter, not the end", "w2,0,0;w2,0,0", 7);
        faultAt("all letters ahead count", "w02,00,00;p00;o01,01;w2,0,2;", 21);
        faultAt("one that is so behind it counts no more", "w2,0,0;q;w2,0,0;", 7);
        // an item that is not so tells nothing; but none is read behind it anyway
        faultAt("one that tells what a later one needs", "w2,0,0;w2,2,0;x0,0,1,0;", 7);
        for (int many = 0; many <= 39; many++) {
            faultAt("at each place", filled("", "o1,1;", 5 * many) + "?", 5 * many);
        }
    }

    /** Promise 1 */
    private static void newObject() {
        String first = "w4,1,0;w3,1,2;w5,2,0;x0,1,1,1;x1,2,2,0;p2;p1;p0;o2,50;";
        Look.same(CHECK, "1 as told", x -> { }, x -> {
            Check.writeTo(x, first);
            x.lay();
            x.wipe();
        });
        CrankedExcuse x = new CrankedExcuse();
        due("1 THE TEXT is empty: no fault", x.fault(), NONE);
        due("1 THE TEXT is empty: the first letter", x.write('w'), 1);
        due("1 THE TEXT is empty: wipe", new CrankedExcuse().wipe(), 0);
        CrankedExcuse one = new CrankedExcuse();
        CrankedExcuse two = new CrankedExcuse();
        one.crank();
        one.write('w');
        one.keep();
        one.file(0, 0);
        due("1 each its own", two.count(4) + two.count(8) + two.count(9) + two.count(10) + two.wheel(0, 3), 0);
    }

    /** Promise 2 */
    private static void write() {
        for (int letter = 32; letter <= 126; letter++) {
            due("2 letter " + letter, new CrankedExcuse().write(letter), 1);
        }
        int[] none = {31, 127, 0, -1, 10, 128, 255, 256, 256 + 'w', 65536 + 'w', -65536 + 'w', Integer.MAX_VALUE,
            Integer.MIN_VALUE, Integer.MIN_VALUE + 'w'};
        Look.Steps some = x -> Check.writeTo(x, "w2,1,0;");
        Look.Steps full = x -> Check.writeTo(x, filled("w2,1,0;p0;", "o2,2;", 200));
        for (int letter : none) {
            Look.refused(CHECK, "2 BAD: " + letter, some, x -> x.write(letter), BAD);
            Look.refused(CHECK, "2 BAD ahead of FULL: " + letter, full, x -> x.write(letter), BAD);
        }
        Look.refused(CHECK, "2 FULL: 32", full, x -> x.write(32), FULL);
        Look.refused(CHECK, "2 FULL: 126", full, x -> x.write(126), FULL);
        CrankedExcuse x = new CrankedExcuse();
        for (int n = 1; n <= 200; n++) {
            due("2 how long it is", x.write('o'), n);
        }
        due("2 FULL", x.write('o'), FULL);
        due("2 FULL again", x.write('o'), FULL);
        x.wipe();
        due("2 room again", x.write('o'), 1);
        CrankedExcuse y = Check.written("w2,1,");
        due("2 comes behind: not yet whole", y.fault(), 0);
        Check.writeTo(y, "0;w");
        due("2 comes behind: whole, and one letter more", y.fault(), 7);
    }

    /** Promise 3 */
    private static void wipe() {
        due("3 empty", new CrankedExcuse().wipe(), 0);
        due("3 one letter", Check.written("w").wipe(), 1);
        due("3 full", Check.written(filled("", "o2,2;", 200)).wipe(), 200);
        Look.unchanged(CHECK, "3 an empty text", x -> x.crank(), CrankedExcuse::wipe);
        Look.same(CHECK, "3 nothing but the text goes", x -> {
            x.give(0, 1);
            x.keep();
            x.day();
            x.shown(0, 1, 1);
        }, x -> {
            x.give(0, 1);
            x.keep();
            x.day();
            x.shown(0, 1, 1);
            Check.writeTo(x, "w2,0,0;");
            x.wipe();
        });
        CrankedExcuse x = Check.written("w7,0,0;");
        x.wipe();
        Check.writeTo(x, "w2,0,0;w7");
        due("3 places from 0 on again", x.fault(), 7);
    }

    /** Promise 4 */
    private static void fault() {
        due("4 NONE: empty", new CrankedExcuse().fault(), NONE);
        due("4 NONE: no wheel is no fault", Check.written("p0;o1,1;").fault(), NONE);
        due("4 the first place", Check.written("?").fault(), 0);
        Look.unchanged(CHECK, "4 a fault", x -> Check.writeTo(x, "w2,0,0;w9"), CrankedExcuse::fault);
        Look.unchanged(CHECK, "4 none", x -> Check.writeTo(x, "w2,0,0;w6,5,4;x0,1,1,1;p3;p1;o4,44;"),
                CrankedExcuse::fault);
        Look.unchanged(CHECK, "4 behind a turn", x -> {
            x.give(0, 1);
            x.keep();
            x.give(1, 2);
            Check.writeTo(x, "w2,0,0;w6,5,4;x0,1,1,1;p3;p1;o4,44;");
        }, CrankedExcuse::fault);
    }

    /** Behind a text laid, what is heard first is as on a new object, whatever was heard ahead of it. */
    private static void layThenGive() {
        String text = "w2,0,0;w6,1,0;p0;p0;p0;";
        for (int p = 0; p < 3; p++) {
            for (int q = 0; q < 3; q++) {
                if (p == q) {
                    continue;
                }
                CrankedExcuse x = Check.laid(text);
                x.give(3 - p - q, q);
                x.give(p, q);
                x.give(3 - p - q, q);
                due("5 seen through ahead", x.count(6), 2);
                x.lay();
                due("5 none is seen through", x.count(6), 0);
                due("5 the first one again", x.give(p, q), 2);
                due("5 the first one is not seen through", x.heard(0, 4), 0);
                due("5 none is seen through yet", x.count(6), 0);
                due("5 nor stale for others", x.stale(4, q) + x.stale(6, q), 0);
            }
        }
    }

    /** Promise 5: NO */
    private static void layNo() {
        String[] texts = {"", "p0;", "o1,1;", "p0;p1;o1,1;", "w2,0,0;w", "w7,0,0;", "?",
            "w2,0,0;w2,0,0;x0,0,0,0;", "w2,0,0"};
        for (String text : texts) {
            Look.refused(CHECK, "5 NO: " + text, x -> Check.writeTo(x, text), CrankedExcuse::lay, NO);
            Look.refused(CHECK, "5 NO, behind other calls: " + text, x -> {
                x.give(0, 1);
                x.give(1, 2);
                x.keep();
                x.file(0, 3);
                x.gear(1, 0);
                x.day();
                x.shown(2, 9, 4);
                Check.writeTo(x, text);
            }, CrankedExcuse::lay, NO);
        }
    }

    /** Promise 5: how many WHEELS; all else as at first */
    private static void lay() {
        String text = "";
        for (int n = 1; n <= 4; n++) {
            text += "w" + (n + 1) + ",1,0;";
            due("5 how many wheels", Check.written(text).lay(), n);
        }
        String other = "w3,1,2;w5,4,0;x0,0,1,4;p2;p0;p3;o3,70;";
        Look.Steps plain = x -> {
            Check.writeTo(x, other);
            x.lay();
        };
        Look.same(CHECK, "5 nothing stays but the text", plain, x -> {
            Check.writeTo(x, other);
            for (int n = 0; n < 12; n++) {
                x.give(n % 3, (n + 1) % 3);
            }
            x.keep();
            x.day();
            x.keep();
            x.file(0, 1);
            x.gear(0, 2);
            for (int n = 0; n < 8; n++) {
                x.shown(n % 3, n, 0);
            }
            x.lay();
        });
        Look.same(CHECK, "5 nothing stays of other texts", plain, x -> {
            String[] texts = {"w6,5,4;w6,1,5;w6,2,3;w6,3,2;x0,1,3,5;p31;p31;p31;p31;p31;o9,99;", "w2,1,1;p0;p0;p0;",
                "w5,1,4;w5,2,3;w4,3,2;w5,4,1;x2,0,3,0;x2,1,3,1;p0;p0;p0;p0;p0;", other};
            for (String one : texts) {
                x.wipe();
                Check.writeTo(x, one);
                x.lay();
                // seen through, told by the last ones, and nothing of it is left
                x.give(2, 1);
                x.give(0, 1);
                x.gear(0, 0);
                x.give(2, 1);
            }
            x.lay();
        });
        Look.same(CHECK, "5 laid twice", plain, x -> {
            plain.on(x);
            x.give(0, 1);
            x.file(1, 2);
            x.lay();
        });
        CrankedExcuse x = Check.laid(other);
        due("5 the text stays: as long", x.count(10), other.length());
        due("5 the text stays: no fault", x.fault(), NONE);
        x.write('w');
        due("5 the text goes on", x.fault(), other.length());
        due("5 the text goes on: NO", x.lay(), NO);
        due("5 laid as before", x.count(2), 15);
    }
}
