import java.math.BigInteger;
import java.util.ArrayDeque;
import java.util.ArrayList;
import java.util.Arrays;
import java.util.Deque;
import java.util.List;
import java.util.regex.Matcher;
import java.util.regex.Pattern;

/** The document once more, in its plainest form: turn by turn, set by set, with fresh lists. */
final class PlainModel {
    private static final int BAD = -1, NO = -2, FULL = -3, NONE = -4;
    private static final Pattern ITEM = Pattern.compile("([a-z])([0-9]{1,2}(?:,[0-9]{1,2})*);");

    private record Told(int excuse, int teller, int hearer, int day, boolean seen) { }

    private record Clash(int i, int a, int j, int b) { }

    private record Shown(int i, int n, int t) { }

    private static final class Laid {
        final List<int[]> wheels = new ArrayList<>();
        final List<Clash> clashes = new ArrayList<>();
        final List<Integer> persons = new ArrayList<>();
        int wear = 1;
        int worth = 60;
    }

    private static final class State {
        int[] up;
        int[] a;
        boolean[][] filed;
        List<Told> heard = new ArrayList<>();
        int day = 0;
        int turns = 0;

        State copy() {
            State s = new State();
            s.up = up.clone();
            s.a = a.clone();
            s.filed = new boolean[filed.length][];
            for (int i = 0; i < filed.length; i++) {
                s.filed[i] = filed[i].clone();
            }
            s.heard = new ArrayList<>(heard);
            s.day = day;
            s.turns = turns;
            return s;
        }
    }

    private String text = "";
    private Laid laid;
    private State now;
    private final Deque<State> undoable = new ArrayDeque<>();
    private final Deque<State> kept = new ArrayDeque<>();
    private final List<Shown> shown = new ArrayList<>();

    PlainModel() {
        text = "w4,1,0;w3,1,2;w5,2,0;x0,1,1,1;x1,2,2,0;p2;p1;p0;o2,50;";
        lay();
        text = "";
    }

    int write(int letter) {
        if (letter < 32 || letter > 126) return BAD;
        if (text.length() == 200) return FULL;
        text += (char) letter;
        return text.length();
    }

    int wipe() {
        int was = text.length();
        text = "";
        return was;
    }

    private int read(Laid into) {
        int place = 0;
        Matcher m = ITEM.matcher(text);
        while (place < text.length()) {
            m.region(place, text.length());
            if (!m.lookingAt() || !take(into, m.group(1), m.group(2))) return place;
            place = m.end();
        }
        return NONE;
    }

    private static boolean take(Laid into, String kind, String numbers) {
        int[] n = Arrays.stream(numbers.split(",")).mapToInt(Integer::parseInt).toArray();
        switch (kind) {
            case "w":
                if (n.length != 3 || n[0] < 2 || n[0] > 6 || n[1] >= n[0] || n[2] >= n[0]) return false;
                return into.wheels.add(n) && into.wheels.size() <= 4;
            case "x":
                if (n.length != 4 || n[0] == n[2]) return false;
                if (n[0] >= into.wheels.size() || n[2] >= into.wheels.size()) return false;
                if (n[1] >= into.wheels.get(n[0])[0] || n[3] >= into.wheels.get(n[2])[0]) return false;
                return into.clashes.add(new Clash(n[0], n[1], n[2], n[3])) && into.clashes.size() <= 8;
            case "p":
                return n.length == 1 && n[0] <= 31 && into.persons.add(n[0]) && into.persons.size() <= 5;
            case "o":
                if (n.length != 2 || n[0] > 9) return false;
                into.wear = n[0];
                into.worth = n[1];
                return true;
            default:
                return false;
        }
    }

    int fault() {
        return read(new Laid());
    }

    int lay() {
        Laid fresh = new Laid();
        if (read(fresh) != NONE || fresh.wheels.isEmpty()) return NO;
        laid = fresh;
        now = new State();
        int w = laid.wheels.size();
        now.up = new int[w];
        now.a = new int[w];
        now.filed = new boolean[w][];
        for (int i = 0; i < w; i++) {
            now.a[i] = laid.wheels.get(i)[1];
            now.up[i] = laid.wheels.get(i)[2];
            now.filed[i] = new boolean[t(i)];
        }
        undoable.clear();
        kept.clear();
        shown.clear();
        return w;
    }

    // ---- words

    private int t(int i) {
        return laid.wheels.get(i)[0];
    }

    private boolean isWheel(int i) {
        return i >= 0 && i < laid.wheels.size();
    }

    private boolean isPerson(int p) {
        return p >= 0 && p < laid.persons.size();
    }

    private int size() {
        int all = 1;
        for (int[] w : laid.wheels) all *= w[0];
        return all;
    }

    private boolean talk(int p, int q) {
        return p != q && ((laid.persons.get(p) & 1 << q) != 0 || (laid.persons.get(q) & 1 << p) != 0);
    }

    private int number(int[] up) {
        int e = 0;
        for (int i = up.length - 1; i >= 0; i--) e = e * t(i) + up[i];
        return e;
    }

    private int[] teethOf(int e) {
        int[] up = new int[laid.wheels.size()];
        for (int i = 0; i < up.length; i++) {
            up[i] = e % t(i);
            e /= t(i);
        }
        return up;
    }

    private boolean sensible(State s, int[] up) {
        for (int i = 0; i < up.length; i++) if (s.filed[i][up[i]]) return false;
        for (Clash c : laid.clashes) if (up[c.i] == c.a && up[c.j] == c.b) return false;
        return true;
    }

    private boolean staleIn(List<Told> heard, int e, int p) {
        for (Told h : heard) {
            if (h.excuse == e && (h.hearer == p || talk(p, h.hearer))) return true;
        }
        return false;
    }

    private void turn(State s) {
        for (int i = 0; i < s.up.length; i++) s.up[i] = (s.up[i] + s.a[i]) % t(i);
        s.turns++;
    }

    private static List<Told> last12(List<Told> heard) {
        return heard.subList(Math.max(0, heard.size() - 12), heard.size());
    }

    /** What it is when p has given one to q; null if none comes. */
    private State given(State s, int p, int q) {
        State then = s.copy();
        List<Told> counting = last12(s.heard);
        for (int n = 0; n < size(); n++) {
            turn(then);
            int e = number(then.up);
            if (!sensible(then, then.up) || staleIn(counting, e, q)) continue;
            boolean seen = false;
            for (Told h : counting) {
                if (h.hearer == q && h.teller != p && h.day == s.day
                        && teethOf(h.excuse)[0] == then.up[0]) {
                    seen = true;
                }
            }
            then.heard.add(new Told(e, p, q, s.day, seen));
            return then;
        }
        return null;
    }

    private void change(State to) {
        undoable.push(now);
        if (undoable.size() > 8) undoable.removeLast();
        now = to;
    }

    private List<int[]> round() {
        List<int[]> all = new ArrayList<>();
        State s = now.copy();
        do {
            turn(s);
            all.add(s.up.clone());
        } while (!Arrays.equals(s.up, now.up));
        return all;
    }

    private List<Integer> heardBy(int p) {
        List<Integer> all = new ArrayList<>();
        for (Told h : now.heard) if (h.hearer == p) all.add(h.excuse);
        return all;
    }

    // ---- boxes

    int wheel(int i, int what) {
        if (!isWheel(i) || what < 0 || what > 3) return BAD;
        int bits = 0;
        for (int tooth = 0; tooth < t(i); tooth++) if (now.filed[i][tooth]) bits += 1 << tooth;
        return new int[] {t(i), now.a[i], now.up[i], bits}[what];
    }

    int talks(int p) {
        if (!isPerson(p)) return BAD;
        int bits = 0;
        for (int q = 0; q < laid.persons.size(); q++) if (talk(p, q)) bits += 1 << q;
        return bits;
    }

    int heard(int k, int what) {
        if (k < 0 || k >= now.heard.size() || what < 0 || what > 4) return BAD;
        Told h = now.heard.get(k);
        return new int[] {h.excuse, h.teller, h.hearer, h.day, h.seen ? 1 : 0}[what];
    }

    int sense(int e) {
        if (e < 0 || e >= size()) return BAD;
        return sensible(now, teethOf(e)) ? 1 : 0;
    }

    int stale(int e, int p) {
        if (e < 0 || e >= size() || !isPerson(p)) return BAD;
        return staleIn(now.heard, e, p) ? 1 : 0;
    }

    // ---- turns

    int crank() {
        State then = now.copy();
        turn(then);
        change(then);
        return number(now.up);
    }

    int give(int p, int q) {
        if (!isPerson(p) || !isPerson(q) || p == q) return BAD;
        if (now.heard.size() == 12) return FULL;
        State then = given(now, p, q);
        if (then == null) return NONE;
        change(then);
        return number(now.up);
    }

    int day() {
        State then = now.copy();
        then.day++;
        change(then);
        return now.day;
    }

    int file(int i, int tooth) {
        if (!isWheel(i) || tooth < 0 || tooth >= t(i)) return BAD;
        if (now.filed[i][tooth]) return NO;
        State then = now.copy();
        then.filed[i][tooth] = true;
        change(then);
        int count = 0;
        for (boolean f : now.filed[i]) if (f) count++;
        return count;
    }

    int gear(int i, int a) {
        if (!isWheel(i) || a < 0 || a >= t(i)) return BAD;
        int was = now.a[i];
        State then = now.copy();
        then.a[i] = a;
        change(then);
        return was;
    }

    int undo() {
        if (undoable.isEmpty()) return NO;
        now = undoable.pop();
        return undoable.size();
    }

    // ---- what comes

    int up(int n, int what) {
        if (n < 0 || n > 9999 || what < 0 || what > 1) return BAD;
        State s = now.copy();
        for (int k = 0; k < n; k++) turn(s);
        return what == 0 ? number(s.up) : sensible(now, s.up) ? 1 : 0;
    }

    int roundLength() {
        return round().size();
    }

    int sensible(int what) {
        if (what < 0 || what > 1) return BAD;
        int count = 0;
        if (what == 0) {
            for (int e = 0; e < size(); e++) if (sensible(now, teethOf(e))) count++;
        } else {
            for (int[] up : round()) if (sensible(now, up)) count++;
        }
        return count;
    }

    int longest(int p) {
        if (!isPerson(p)) return BAD;
        int count = 0;
        for (int[] up : round()) if (sensible(now, up) && !staleIn(now.heard, number(up), p)) count++;
        return count;
    }

    // ---- what was heard

    int teeth(int p, int k) {
        if (!isPerson(p) || k < -1 || k > 7) return BAD;
        List<int[]> need = new ArrayList<>();
        for (int e : heardBy(p)) need.add(teethOf(e));
        List<Integer> names = new ArrayList<>();
        for (int i = 0; i < laid.wheels.size(); i++) {
            for (int tooth = 0; tooth < t(i); tooth++) names.add(10 * i + tooth);
        }
        List<Integer> set = new ArrayList<>();
        int fewest = 0;
        while (!choose(names, 0, fewest, set, need)) fewest++;
        return k == -1 ? fewest : k < fewest ? set.get(k) : NONE;
    }

    private static boolean choose(List<Integer> names, int from, int left, List<Integer> set, List<int[]> need) {
        if (left == 0) return all(set, need);
        for (int n = from; n < names.size(); n++) {
            set.add(names.get(n));
            if (choose(names, n + 1, left - 1, set, need)) return true;
            set.remove(set.size() - 1);
        }
        return false;
    }

    private static boolean all(List<Integer> set, List<int[]> need) {
        for (int[] up : need) {
            boolean one = false;
            for (int name : set) if (name / 10 < up.length && up[name / 10] == name % 10) one = true;
            if (!one) return false;
        }
        return true;
    }

    int together(int p) {
        if (!isPerson(p)) return BAD;
        List<Integer> all = heardBy(p);
        if (laid.wheels.size() == 1) return all.size();
        int most = 0;
        for (int set = 0; set < 1 << all.size(); set++) {
            if (Integer.bitCount(set) > most && standTogether(all, set)) most = Integer.bitCount(set);
        }
        return most;
    }

    private boolean standTogether(List<Integer> all, int set) {
        for (int j = 0; j < all.size(); j++) {
            for (int k = 0; k < j; k++) {
                if ((set >> j & set >> k & 1) == 0) continue;
                int[] one = teethOf(all.get(j));
                int[] other = teethOf(all.get(k));
                boolean apart = one[0] == other[0];
                for (int i = 1; i < one.length; i++) if (one[i] == other[i]) apart = false;
                if (apart) return false;
            }
        }
        return true;
    }

    int owner(int k) {
        if (k < 0 || k >= now.heard.size()) return BAD;
        for (Told h : now.heard) if (h.excuse == now.heard.get(k).excuse) return h.teller;
        throw new IllegalStateException();
    }

    long caught(int p, int x, int part) {
        if (!isPerson(p) || x < 0 || x > 10 || part < 0 || part > 1) return BAD;
        List<Integer> all = heardBy(p);
        BigInteger above = BigInteger.ONE;
        BigInteger below = BigInteger.ONE;
        for (int j = 0; j < all.size(); j++) {
            boolean shared = false;
            for (int k = 0; k < all.size(); k++) {
                if (k != j && teethOf(all.get(k))[0] == teethOf(all.get(j))[0]) shared = true;
            }
            if (shared) {
                above = above.multiply(BigInteger.valueOf(10 - x));
                below = below.multiply(BigInteger.TEN);
            }
        }
        BigInteger common = above.gcd(below);
        return (part == 0 ? above : below).divide(common).longValueExact();
    }

    // ---- gears

    int shown(int i, int n, int tooth) {
        if (!isWheel(i) || n < 0 || n > 99 || tooth < 0 || tooth >= t(i)) return BAD;
        if (shown.size() == 8) return FULL;
        shown.add(new Shown(i, n, tooth));
        return shown.size();
    }

    int forget() {
        int was = shown.size();
        shown.clear();
        return was;
    }

    private int toothBehind(int i, int a, int n) {
        int tooth = laid.wheels.get(i)[2];
        for (int k = 0; k < n; k++) tooth = (tooth + a) % t(i);
        return tooth;
    }

    int gears(int i) {
        if (!isWheel(i)) return BAD;
        int bits = 0;
        for (int a = 0; a < t(i); a++) {
            boolean so = true;
            for (Shown s : shown) if (s.i == i && toothBehind(i, a, s.n) != s.t) so = false;
            if (so) bits += 1 << a;
        }
        return bits;
    }

    int ask(int i, int what) {
        if (!isWheel(i) || what < 0 || what > 1) return BAD;
        int bits = gears(i);
        if (bits == 0) return NONE;
        int best = 0;
        int fewest = 99;
        for (int n = 1; n <= 9; n++) {
            int[] show = new int[t(i)];
            for (int a = 0; a < t(i); a++) if ((bits & 1 << a) != 0) show[toothBehind(i, a, n)]++;
            int worst = Arrays.stream(show).max().getAsInt();
            if (worst < fewest) {
                fewest = worst;
                best = n;
            }
        }
        return what == 0 ? best : fewest;
    }

    int sell(int what) {
        if (what < 0 || what > 1) return BAD;
        State s = now.copy();
        int best = 0;
        int most = -1;
        int good = 0;
        for (int n = 0; n <= 40; n++) {
            int worth = Math.max(0, laid.worth - laid.wear * s.turns) + good;
            if (worth > most) {
                most = worth;
                best = n;
            }
            turn(s);
            if (sensible(s, s.up)) good++;
        }
        return what == 0 ? best : most;
    }

    int year(int z, int n, int what) {
        if (z < 0 || z > 9999 || n < 1 || n > 60 || what < 0 || what > 1) return BAD;
        int many = laid.persons.size();
        if (many < 2) return NO;
        State s = now.copy();
        int given = 0;
        int seen = 0;
        for (int k = 0; k < n; k++) {
            BigInteger x = BigInteger.valueOf(7919).multiply(BigInteger.valueOf(z))
                    .add(BigInteger.valueOf(6151).multiply(BigInteger.valueOf(k))).add(BigInteger.ONE);
            int draw = x.multiply(x).mod(BigInteger.valueOf(65521)).intValue() / 8;
            State then = given(s, draw % many, (draw % many + 1) % many);
            if (then != null) {
                s = then;
                given++;
                if (s.heard.get(s.heard.size() - 1).seen) seen++;
            }
            if (draw / 16 % 3 == 0) s.day++;
        }
        return what == 0 ? given : seen;
    }

    int keep() {
        if (kept.size() == 2) return FULL;
        kept.push(now.copy());
        return kept.size();
    }

    int back() {
        if (kept.isEmpty()) return NO;
        now = kept.pop();
        undoable.clear();
        return kept.size();
    }

    int count(int what) {
        int seen = 0;
        for (Told h : now.heard) if (h.seen) seen++;
        int[] all = {laid.wheels.size(), laid.persons.size(), size(), now.day, now.turns, now.heard.size(),
            seen, shown.size(), undoable.size(), kept.size(), text.length()};
        return what < 0 || what >= all.length ? BAD : all[what];
    }
}
