/**
 * A brass box with wheels that gives by a turn an excuse that makes sense and has not been used on
 * whoever hears it. What each call answers is told in ../shared/DOC.md, in numbered promises.
 *
 * All rows are made in the constructor and used again, since every call of a run lives in one room.
 */
public final class CrankedExcuse {
    public static final int BAD = -1, NO = -2, FULL = -3, NONE = -4;

    private static final int LETTERS_MOST = 200;
    private static final int NUMBERS_MOST = 4;
    private static final int WHEELS_MOST = 4;
    private static final int TEETH_MOST = 6;
    private static final int CLASHES_MOST = 8;
    private static final int PERSONS_MOST = 5;
    private static final int HEARD_MOST = 12;
    private static final int SHOWN_MOST = 8;
    private static final int UNDONE_MOST = 8;
    private static final int KEPT_MOST = 2;
    private static final int ASK_MOST = 9;
    private static final int SELL_MOST = 40;
    private static final int PICKS_MOST = 8;
    /** Teeth are told as bits, each in a slot: wheel times 6 and tooth, so in DOC's order. */
    private static final int SLOTS = WHEELS_MOST * TEETH_MOST;
    private static final int WHEEL_BITS = (1 << TEETH_MOST) - 1;
    /** Far above what Euclid needs for numbers under a hundred. */
    private static final int EUCLID_STEPS = 64;
    private static final String FIRST_TEXT = "w4,1,0;w3,1,2;w5,2,0;x0,1,1,1;x1,2,2,0;p2;p1;p0;o2,50;";

    private final Text text;
    private final Sightings sightings;
    private final Shelf undoable;
    private final Shelf kept;
    private final Box now;
    private final Box trial;
    private final Ear ear;
    private Plan plan;
    private Plan draft;

    public CrankedExcuse() {
        text = new Text();
        sightings = new Sightings();
        undoable = new Shelf(UNDONE_MOST);
        kept = new Shelf(KEPT_MOST);
        now = new Box();
        trial = new Box();
        ear = new Ear();
        plan = new Plan();
        draft = new Plan();
        for (int i = 0; i < FIRST_TEXT.length(); i++) {
            text.add(FIRST_TEXT.charAt(i));
        }
        text.readInto(plan);
        now.begin(plan);
        text.empty();
    }

    // ---- boxes

    public int write(int letter) {
        if (letter < 32 || letter > 126) {
            return BAD;
        }
        return text.add((char) letter) ? text.length : FULL;
    }

    public int wipe() {
        int length = text.length;
        text.empty();
        return length;
    }

    public int fault() {
        return text.readInto(draft);
    }

    public int lay() {
        if (text.readInto(draft) != NONE || draft.wheels == 0) {
            return NO;
        }
        Plan old = plan;
        plan = draft;
        draft = old;
        now.begin(plan);
        sightings.shown = 0;
        undoable.count = 0;
        kept.count = 0;
        return plan.wheels;
    }

    public int wheel(int i, int what) {
        if (!isWheel(i)) {
            return BAD;
        }
        switch (what) {
            case 0:
                return at(plan.teeth, i);
            case 1:
                return at(now.steps, i);
            case 2:
                return at(now.up, i);
            case 3:
                return now.filed >> slotOf(i, 0) & WHEEL_BITS;
            default:
                return BAD;
        }
    }

    public int talks(int p) {
        return isPerson(p) ? plan.friendsOf(p) : BAD;
    }

    public int heard(int k, int what) {
        if (!isHeard(k)) {
            return BAD;
        }
        switch (what) {
            case 0:
                return at(now.excuses, k);
            case 1:
                return at(now.tellers, k);
            case 2:
                return at(now.hearers, k);
            case 3:
                return at(now.days, k);
            case 4:
                return at(now.seen, k);
            default:
                return BAD;
        }
    }

    public int sense(int e) {
        if (!isExcuse(e)) {
            return BAD;
        }
        return now.makesSense(plan, e) ? 1 : 0;
    }

    public int stale(int e, int p) {
        if (!isExcuse(e) || !isPerson(p)) {
            return BAD;
        }
        return now.isUsed(e, plan.circleOf(p)) ? 1 : 0;
    }

    // ---- turns

    public int crank() {
        undoable.push(now);
        now.turnBy(plan, 1);
        return now.excuseBehind(plan, 0);
    }

    public int give(int p, int q) {
        if (!isPerson(p) || !isPerson(q) || p == q) {
            return BAD;
        }
        if (now.heard >= HEARD_MOST) {
            return FULL;
        }
        int turns = now.turnsTillFresh(plan, q);
        if (turns == 0) {
            return NONE;
        }
        undoable.push(now);
        now.turnBy(plan, turns);
        now.tell(plan, p, q);
        return now.excuseBehind(plan, 0);
    }

    public int day() {
        undoable.push(now);
        now.today++;
        return now.today;
    }

    public int file(int i, int tooth) {
        if (!isWheel(i) || !isTooth(i, tooth)) {
            return BAD;
        }
        int bit = 1 << slotOf(i, tooth);
        if ((now.filed & bit) != 0) {
            return NO;
        }
        undoable.push(now);
        now.filed |= bit;
        return Integer.bitCount(now.filed >> slotOf(i, 0) & WHEEL_BITS);
    }

    public int gear(int i, int a) {
        // A runs from 0 to T less 1, as the teeth do
        if (!isWheel(i) || !isTooth(i, a)) {
            return BAD;
        }
        int old = at(now.steps, i);
        undoable.push(now);
        put(now.steps, i, a);
        return old;
    }

    public int undo() {
        return undoable.pop(now) ? undoable.count : NO;
    }

    // ---- what comes

    public int up(int n, int what) {
        if (n < 0 || n > 9999 || !isPart(what)) {
            return BAD;
        }
        int e = now.excuseBehind(plan, n);
        if (what == 0) {
            return e;
        }
        return now.makesSense(plan, e) ? 1 : 0;
    }

    public int round() {
        return now.turnsInRound(plan);
    }

    public int sensible(int what) {
        if (!isPart(what)) {
            return BAD;
        }
        int many = what == 0 ? plan.size : now.turnsInRound(plan);
        int count = 0;
        for (int n = 0; n < many; n++) {
            int e = what == 0 ? n : now.excuseBehind(plan, n);
            if (now.makesSense(plan, e)) {
                count++;
            }
        }
        return count;
    }

    public int longest(int p) {
        if (!isPerson(p)) {
            return BAD;
        }
        int circle = plan.circleOf(p);
        int many = now.turnsInRound(plan);
        int count = 0;
        for (int n = 0; n < many; n++) {
            if (now.isFresh(plan, now.excuseBehind(plan, n), circle)) {
                count++;
            }
        }
        return count;
    }

    // ---- what was heard

    public int teeth(int p, int k) {
        if (!isPerson(p) || k < -1 || k > 7) {
            return BAD;
        }
        ear.listen(plan, now, p);
        int fewest = ear.fewestTeeth();
        if (k == -1) {
            return fewest;
        }
        if (k >= fewest) {
            return NONE;
        }
        int slot = ear.slotOfFewest(fewest, k);
        return slot / TEETH_MOST * 10 + slot % TEETH_MOST;
    }

    public int together(int p) {
        if (!isPerson(p)) {
            return BAD;
        }
        ear.listen(plan, now, p);
        return ear.mostTogether();
    }

    public int owner(int k) {
        if (!isHeard(k)) {
            return BAD;
        }
        int e = at(now.excuses, k);
        int first = 0;
        while (first < k && at(now.excuses, first) != e) {
            first++;
        }
        return at(now.tellers, first);
    }

    public long caught(int p, int x, int part) {
        if (!isPerson(p) || x < 0 || x > 10 || !isPart(part)) {
            return BAD;
        }
        ear.listen(plan, now, p);
        // lowest terms before the power are lowest terms behind it
        int common = commonDivisor(10, 10 - x);
        int base = (part == 0 ? 10 - x : 10) / (common > 0 ? common : 1);
        long power = 1;
        for (int left = ear.sharersOfFirstWheel(); left > 0; left--) {
            power *= base;
        }
        return power;
    }

    // ---- gears

    public int shown(int i, int n, int t) {
        if (!isWheel(i) || n < 0 || n > 99 || !isTooth(i, t)) {
            return BAD;
        }
        return sightings.add(i, n, t) ? sightings.shown : FULL;
    }

    public int forget() {
        int shown = sightings.shown;
        sightings.shown = 0;
        return shown;
    }

    public int gears(int i) {
        return isWheel(i) ? sightings.stepsOf(plan, i) : BAD;
    }

    public int ask(int i, int what) {
        if (!isWheel(i) || !isPart(what)) {
            return BAD;
        }
        int steps = sightings.stepsOf(plan, i);
        if (steps == 0) {
            return NONE;
        }
        int best = 1;
        int fewest = sightings.mostAlike(plan, i, steps, 1);
        for (int n = 2; n <= ASK_MOST; n++) {
            int alike = sightings.mostAlike(plan, i, steps, n);
            if (alike < fewest) {
                best = n;
                fewest = alike;
            }
        }
        return what == 0 ? best : fewest;
    }

    public int sell(int what) {
        if (!isPart(what)) {
            return BAD;
        }
        int best = 0;
        int most = worthBehind(0);
        int sensible = 0;
        for (int n = 1; n <= SELL_MOST; n++) {
            sensible += now.makesSense(plan, now.excuseBehind(plan, n)) ? 1 : 0;
            int worth = worthBehind(n) + sensible;
            if (worth > most) {
                best = n;
                most = worth;
            }
        }
        return what == 0 ? best : most;
    }

    public int year(int z, int n, int what) {
        if (z < 0 || z > 9999 || n < 1 || n > 60 || !isPart(what)) {
            return BAD;
        }
        int persons = plan.persons;
        if (persons < 2) {
            return NO;
        }
        trial.copy(now);
        int given = 0;
        int seen = 0;
        for (int k = 0; k < n; k++) {
            int draw = drawOf(z, k);
            int p = draw % persons;
            int q = (p + 1) % persons;
            int turns = trial.turnsTillFresh(plan, q);
            if (turns > 0) {
                trial.turnBy(plan, turns);
                seen += trial.tell(plan, p, q);
                given++;
            }
            if (draw / 16 % 3 == 0) {
                trial.today++;
            }
        }
        return what == 0 ? given : seen;
    }

    public int keep() {
        if (kept.count >= KEPT_MOST) {
            return FULL;
        }
        kept.push(now);
        return kept.count;
    }

    public int back() {
        if (!kept.pop(now)) {
            return NO;
        }
        undoable.count = 0;
        return kept.count;
    }

    public int count(int what) {
        switch (what) {
            case 0:
                return plan.wheels;
            case 1:
                return plan.persons;
            case 2:
                return plan.size;
            case 3:
                return now.today;
            case 4:
                return now.turns;
            case 5:
                return now.heard;
            case 6:
                return now.seenThrough();
            case 7:
                return sightings.shown;
            case 8:
                return undoable.count;
            case 9:
                return kept.count;
            case 10:
                return text.length;
            default:
                return BAD;
        }
    }

    // ---- what the calls test

    private boolean isWheel(int i) {
        return i >= 0 && i < plan.wheels;
    }

    private boolean isTooth(int i, int t) {
        return t >= 0 && t < at(plan.teeth, i);
    }

    private boolean isPerson(int p) {
        return p >= 0 && p < plan.persons;
    }

    private boolean isExcuse(int e) {
        return e >= 0 && e < plan.size;
    }

    private boolean isHeard(int k) {
        return k >= 0 && k < now.heard;
    }

    private static boolean isPart(int what) {
        return what == 0 || what == 1;
    }

    private int worthBehind(int n) {
        int worth = plan.worth - plan.wear * (now.turns + n);
        return worth > 0 ? worth : 0;
    }

    private static int drawOf(int z, int k) {
        long x = 7919L * z + 6151L * k + 1;
        return (int) (x * x % 65521 / 8);
    }

    // ---- rows and numbers, safe for any argument

    private static int at(int[] row, int i) {
        return row != null && i >= 0 && i < row.length ? row[i] : 0;
    }

    private static void put(int[] row, int i, int value) {
        if (row != null && i >= 0 && i < row.length) {
            row[i] = value;
        }
    }

    private static void copyRow(int[] from, int[] to) {
        if (from != null && to != null) {
            System.arraycopy(from, 0, to, 0, Math.min(from.length, to.length));
        }
    }

    private static int slotOf(int wheel, int tooth) {
        return wheel * TEETH_MOST + tooth;
    }

    /** Of bits that are not all 0. */
    private static int lowestOf(int bits) {
        return Integer.bitCount((bits & -bits) - 1);
    }

    private static int commonDivisor(int a, int b) {
        for (int step = 0; step < EUCLID_STEPS && b != 0; step++) {
            int rest = a % b;
            a = b;
            b = rest;
        }
        return a;
    }

    /** THE TEXT, and the reading of it. */
    private static final class Text {
        private final char[] letters = new char[LETTERS_MOST];
        private final int[] numbers = new int[NUMBERS_MOST];
        private int length;
        private int place;

        boolean add(char letter) {
            if (length < 0 || length >= letters.length) {
                return false;
            }
            letters[length] = letter;
            length++;
            return true;
        }

        void empty() {
            length = 0;
        }

        /** The FAULT, or NONE; only then is the plan whole. */
        int readInto(Plan into) {
            into.empty();
            place = 0;
            for (int items = 0; items < LETTERS_MOST && place < length; items++) {
                int start = place;
                if (!readItem(into)) {
                    return start;
                }
            }
            return NONE;
        }

        private boolean readItem(Plan into) {
            int kind = letterAt(place);
            int many = numbersOf(kind);
            place++;
            for (int n = 0; n < many; n++) {
                int number = readNumber();
                int parting = n < many - 1 ? ',' : ';';
                if (number < 0 || letterAt(place) != parting) {
                    return false;
                }
                place++;
                put(numbers, n, number);
            }
            return many > 0 && into.take(kind, numbers);
        }

        private static int numbersOf(int kind) {
            switch (kind) {
                case 'w':
                    return 3;
                case 'x':
                    return 4;
                case 'p':
                    return 1;
                case 'o':
                    return 2;
                default:
                    return 0;
            }
        }

        /** One or two figures, or -1. */
        private int readNumber() {
            int number = figureAt(place);
            if (number < 0) {
                return -1;
            }
            place++;
            int second = figureAt(place);
            if (second < 0) {
                return number;
            }
            place++;
            return 10 * number + second;
        }

        private int figureAt(int i) {
            int letter = letterAt(i);
            return letter >= '0' && letter <= '9' ? letter - '0' : -1;
        }

        private int letterAt(int i) {
            return i >= 0 && i < length && i < letters.length ? letters[i] : 0;
        }
    }

    /** What a text tells: it never changes once it is laid. */
    private static final class Plan {
        private final int[] teeth = new int[WHEELS_MOST];
        private final int[] steps = new int[WHEELS_MOST];
        private final int[] up = new int[WHEELS_MOST];
        /** By how much an excuse's number grows with a tooth of each wheel. */
        private final int[] strides = new int[WHEELS_MOST];
        /** Two teeth each, as bits. */
        private final int[] clashing = new int[CLASHES_MOST];
        private final int[] told = new int[PERSONS_MOST];
        private int wheels;
        private int clashes;
        private int persons;
        private int size;
        private int wear;
        private int worth;

        void empty() {
            wheels = 0;
            clashes = 0;
            persons = 0;
            size = 1;
            wear = 1;
            worth = 60;
        }

        /** Whether an item is so, in which case it is taken. */
        boolean take(int kind, int[] numbers) {
            int a = at(numbers, 0);
            int b = at(numbers, 1);
            switch (kind) {
                case 'w':
                    return addWheel(a, b, at(numbers, 2));
                case 'x':
                    return addClash(a, b, at(numbers, 2), at(numbers, 3));
                case 'p':
                    return addPerson(a);
                case 'o':
                    return setWorth(a, b);
                default:
                    return false;
            }
        }

        private boolean addWheel(int t, int a, int p) {
            if (wheels >= WHEELS_MOST || t < 2 || t > TEETH_MOST || a >= t || p >= t) {
                return false;
            }
            put(teeth, wheels, t);
            put(steps, wheels, a);
            put(up, wheels, p);
            put(strides, wheels, size);
            size *= t;
            wheels++;
            return true;
        }

        private boolean addClash(int i, int a, int j, int b) {
            if (clashes >= CLASHES_MOST || i == j || !isToothTold(i, a) || !isToothTold(j, b)) {
                return false;
            }
            put(clashing, clashes, 1 << slotOf(i, a) | 1 << slotOf(j, b));
            clashes++;
            return true;
        }

        private boolean isToothTold(int i, int t) {
            return i < wheels && t < at(teeth, i);
        }

        private boolean addPerson(int friends) {
            if (persons >= PERSONS_MOST || friends > 31) {
                return false;
            }
            put(told, persons, friends);
            persons++;
            return true;
        }

        private boolean setWorth(int w, int v) {
            if (w > 9) {
                return false;
            }
            wear = w;
            worth = v;
            return true;
        }

        int toothOf(int e, int i) {
            int stride = at(strides, i);
            int t = at(teeth, i);
            return stride > 0 && t > 0 ? e / stride % t : 0;
        }

        /** The teeth of an excuse, as bits. */
        int teethOf(int e) {
            int bits = 0;
            for (int i = 0; i < wheels; i++) {
                bits |= 1 << slotOf(i, toothOf(e, i));
            }
            return bits;
        }

        boolean goTogether(int bits) {
            for (int k = 0; k < clashes; k++) {
                int pair = at(clashing, k);
                if ((bits & pair) == pair) {
                    return false;
                }
            }
            return true;
        }

        /** To whom a person talks, as bits: told of one of the two is told of both. */
        int friendsOf(int p) {
            int bits = 0;
            for (int q = 0; q < persons; q++) {
                if (q != p && ((at(told, p) >> q | at(told, q) >> p) & 1) != 0) {
                    bits |= 1 << q;
                }
            }
            return bits;
        }

        /** Those among whom what one has heard is stale for p. */
        int circleOf(int p) {
            return friendsOf(p) | 1 << p;
        }
    }

    /** What turns, filing, telling and days change; one can be laid by and taken up again. */
    private static final class Box {
        private final int[] up = new int[WHEELS_MOST];
        private final int[] steps = new int[WHEELS_MOST];
        private final int[] excuses = new int[HEARD_MOST];
        private final int[] tellers = new int[HEARD_MOST];
        private final int[] hearers = new int[HEARD_MOST];
        private final int[] days = new int[HEARD_MOST];
        private final int[] seen = new int[HEARD_MOST];
        /** Teeth, as bits. */
        private int filed;
        private int heard;
        private int today;
        private int turns;

        void begin(Plan plan) {
            copyRow(plan.up, up);
            copyRow(plan.steps, steps);
            filed = 0;
            heard = 0;
            today = 0;
            turns = 0;
        }

        void copy(Box from) {
            copyRow(from.up, up);
            copyRow(from.steps, steps);
            copyRow(from.excuses, excuses);
            copyRow(from.tellers, tellers);
            copyRow(from.hearers, hearers);
            copyRow(from.days, days);
            copyRow(from.seen, seen);
            filed = from.filed;
            heard = from.heard;
            today = from.today;
            turns = from.turns;
        }

        int toothBehind(Plan plan, int i, int n) {
            int t = at(plan.teeth, i);
            return t > 0 ? (at(up, i) + at(steps, i) * n) % t : 0;
        }

        int excuseBehind(Plan plan, int n) {
            int e = 0;
            for (int i = 0; i < plan.wheels; i++) {
                e += at(plan.strides, i) * toothBehind(plan, i, n);
            }
            return e;
        }

        void turnBy(Plan plan, int n) {
            for (int i = 0; i < plan.wheels; i++) {
                put(up, i, toothBehind(plan, i, n));
            }
            turns += n;
        }

        int turnsInRound(Plan plan) {
            int all = 1;
            for (int i = 0; i < plan.wheels; i++) {
                int t = at(plan.teeth, i);
                int common = commonDivisor(t, at(steps, i));
                int one = common > 0 ? t / common : 1;
                int shared = commonDivisor(all, one);
                all = shared > 0 ? all / shared * one : all;
            }
            return all;
        }

        boolean makesSense(Plan plan, int e) {
            int bits = plan.teethOf(e);
            return (bits & filed) == 0 && plan.goTogether(bits);
        }

        boolean isUsed(int e, int circle) {
            for (int k = 0; k < heard; k++) {
                if (at(excuses, k) == e && (circle >> at(hearers, k) & 1) != 0) {
                    return true;
                }
            }
            return false;
        }

        boolean isFresh(Plan plan, int e, int circle) {
            return makesSense(plan, e) && !isUsed(e, circle);
        }

        /**
         * By how many turns something comes that can be told to q, or 0. A round is enough: no round
         * is longer than there are excuses, and behind it the same ones come again.
         */
        int turnsTillFresh(Plan plan, int q) {
            int circle = plan.circleOf(q);
            int many = turnsInRound(plan);
            for (int n = 1; n <= many; n++) {
                if (isFresh(plan, excuseBehind(plan, n), circle)) {
                    return n;
                }
            }
            return 0;
        }

        /** p tells q what is up; answers 1 if that one sees through it. The last 12 told stay. */
        int tell(Plan plan, int p, int q) {
            int e = excuseBehind(plan, 0);
            int isSeen = isSeenThrough(plan, e, p, q) ? 1 : 0;
            if (heard >= HEARD_MOST) {
                dropFirst();
            }
            put(excuses, heard, e);
            put(tellers, heard, p);
            put(hearers, heard, q);
            put(days, heard, today);
            put(seen, heard, isSeen);
            heard++;
            return isSeen;
        }

        private boolean isSeenThrough(Plan plan, int e, int p, int q) {
            int tooth = plan.toothOf(e, 0);
            for (int k = 0; k < heard; k++) {
                if (at(hearers, k) == q && at(days, k) == today && at(tellers, k) != p
                        && plan.toothOf(at(excuses, k), 0) == tooth) {
                    return true;
                }
            }
            return false;
        }

        private void dropFirst() {
            for (int k = 1; k < heard; k++) {
                put(excuses, k - 1, at(excuses, k));
                put(tellers, k - 1, at(tellers, k));
                put(hearers, k - 1, at(hearers, k));
                put(days, k - 1, at(days, k));
                put(seen, k - 1, at(seen, k));
            }
            heard--;
        }

        int seenThrough() {
            int count = 0;
            for (int k = 0; k < heard; k++) {
                count += at(seen, k);
            }
            return count;
        }
    }

    /** Boxes laid by, the last one first to come back; the oldest falls out when there is no room. */
    private static final class Shelf {
        private final Box[] boxes;
        private int next;
        private int count;

        Shelf(int room) {
            boxes = new Box[room > 0 ? room : 1];
            for (int i = 0; i < boxes.length; i++) {
                boxes[i] = new Box();
            }
        }

        void push(Box box) {
            Box place = placeAt(next);
            if (place == null) {
                return;
            }
            place.copy(box);
            next = next + 1 < boxes.length ? next + 1 : 0;
            count = count < boxes.length ? count + 1 : count;
        }

        /** Whether there was one, which is now in the box. */
        boolean pop(Box box) {
            int last = next > 0 ? next - 1 : boxes.length - 1;
            Box place = placeAt(last);
            if (count == 0 || place == null) {
                return false;
            }
            box.copy(place);
            next = last;
            count--;
            return true;
        }

        private Box placeAt(int i) {
            return i >= 0 && i < boxes.length ? boxes[i] : null;
        }
    }

    /** What was shown of the wheels, and what that tells of how they go. */
    private static final class Sightings {
        private final int[] wheels = new int[SHOWN_MOST];
        private final int[] turns = new int[SHOWN_MOST];
        private final int[] teeth = new int[SHOWN_MOST];
        private int shown;

        boolean add(int i, int n, int t) {
            if (shown >= SHOWN_MOST) {
                return false;
            }
            put(wheels, shown, i);
            put(turns, shown, n);
            put(teeth, shown, t);
            shown++;
            return true;
        }

        int stepsOf(Plan plan, int i) {
            int bits = 0;
            int t = at(plan.teeth, i);
            for (int a = 0; a < t; a++) {
                if (isSo(plan, i, a)) {
                    bits |= 1 << a;
                }
            }
            return bits;
        }

        private boolean isSo(Plan plan, int i, int a) {
            for (int k = 0; k < shown; k++) {
                if (at(wheels, k) == i && toothBehind(plan, i, a, at(turns, k)) != at(teeth, k)) {
                    return false;
                }
            }
            return true;
        }

        /** How many of the steps show the same tooth behind n turns, at the worst. */
        int mostAlike(Plan plan, int i, int steps, int n) {
            int t = at(plan.teeth, i);
            int most = 0;
            for (int tooth = 0; tooth < t; tooth++) {
                int alike = 0;
                for (int a = 0; a < t; a++) {
                    if ((steps >> a & 1) != 0 && toothBehind(plan, i, a, n) == tooth) {
                        alike++;
                    }
                }
                most = Math.max(most, alike);
            }
            return most;
        }

        private static int toothBehind(Plan plan, int i, int a, int n) {
            int t = at(plan.teeth, i);
            return t > 0 ? (at(plan.up, i) + a * n) % t : 0;
        }
    }

    /** What one person has heard, told by teeth. */
    private static final class Ear {
        /** Of each excuse heard, its teeth, as bits. */
        private final int[] teeth = new int[HEARD_MOST];
        /** Of each slot, which of the excuses heard have that tooth, as bits. */
        private final int[] covers = new int[SLOTS];
        /** Of each excuse heard, which others cannot stand beside it, as bits. */
        private final int[] rivals = new int[HEARD_MOST];
        private int count;

        void listen(Plan plan, Box box, int p) {
            count = 0;
            for (int k = 0; k < box.heard; k++) {
                if (at(box.hearers, k) == p) {
                    put(teeth, count, plan.teethOf(at(box.excuses, k)));
                    count++;
                }
            }
            for (int slot = 0; slot < covers.length; slot++) {
                covers[slot] = haversOf(slot);
            }
        }

        private int haversOf(int slot) {
            int bits = 0;
            for (int k = 0; k < count; k++) {
                bits |= (at(teeth, k) >> slot & 1) << k;
            }
            return bits;
        }

        private int allHeard() {
            return (1 << count) - 1;
        }

        int fewestTeeth() {
            int fewest = 0;
            while (fewest < PICKS_MOST && !canCover(this, allHeard(), 0, fewest)) {
                fewest++;
            }
            return fewest;
        }

        /** The k-th slot of the lowest set: each is the lowest behind which the rest still goes. */
        int slotOfFewest(int fewest, int k) {
            int left = allHeard();
            int picked = 0;
            for (int slot = 0; slot < SLOTS; slot++) {
                int rest = left & ~at(covers, slot);
                if (canCover(this, rest, slot + 1, fewest - picked - 1)) {
                    if (picked == k) {
                        return slot;
                    }
                    left = rest;
                    picked++;
                }
            }
            return 0;
        }

        /**
         * Whether so many slots, from one on, have all that is left. One of the few teeth of the first
         * that is left must be among them; a pick less a level ends the recursion.
         */
        private static boolean canCover(Ear ear, int left, int from, int picks) {
            if (left == 0 || picks <= 0) {
                return left == 0 && picks >= 0;
            }
            int bits = at(ear.teeth, lowestOf(left));
            for (int slot = from; slot < SLOTS; slot++) {
                if ((bits >> slot & 1) != 0
                        && canCover(ear, left & ~at(ear.covers, slot), from, picks - 1)) {
                    return true;
                }
            }
            return false;
        }

        int mostTogether() {
            for (int k = 0; k < count; k++) {
                put(rivals, k, rivalsOf(k));
            }
            return mostOf(rivals, allHeard(), HEARD_MOST);
        }

        /** Those that have in common with the k-th the tooth of wheel 0, and no other one. */
        private int rivalsOf(int k) {
            int bits = 0;
            for (int j = 0; j < count; j++) {
                int common = at(teeth, j) & at(teeth, k);
                if (j != k && (common & WHEEL_BITS) != 0 && (common & ~WHEEL_BITS) == 0) {
                    bits |= 1 << j;
                }
            }
            return bits;
        }

        /** Each level settles one excuse at least, so it goes no deeper than there are excuses. */
        private static int mostOf(int[] rivals, int left, int depth) {
            if (left == 0 || depth <= 0) {
                return 0;
            }
            int first = lowestOf(left);
            int others = left & ~(1 << first);
            int free = others & ~at(rivals, first);
            int standing = 1 + mostOf(rivals, free, depth - 1);
            return free == others ? standing : Math.max(standing, mostOf(rivals, others, depth - 1));
        }

        int sharersOfFirstWheel() {
            int sharers = 0;
            for (int tooth = 0; tooth < TEETH_MOST; tooth++) {
                int havers = Integer.bitCount(at(covers, slotOf(0, tooth)));
                sharers += havers > 1 ? havers : 0;
            }
            return sharers;
        }
    }
}
