import java.math.BigInteger;
import java.util.ArrayDeque;
import java.util.ArrayList;
import java.util.Deque;
import java.util.List;
import java.util.TreeSet;
import java.util.regex.Matcher;
import java.util.regex.Pattern;

/** The document once more, written anew in the plainest way, to compare the class with. */
final class Model {
    static final int BAD = -1, NO = -2, FULL = -3, NONE = -4;
    private static final Pattern ITEM = Pattern.compile("([nwdbcm])(\\d{1,2}(?:,\\d{1,2})*);");
    private static final String FIRST = "n7;w0,1,2;w1,2,3;w2,3,1;w1,4,4;w4,5,2;w3,5,5;w0,6,6;w6,3,2;"
        + "d0,3;d1,5;d2,4;d3,2;b0,1,3;b1,2,5;b2,1,7;b3,3,2;c2,1;c4,2;m4;";

    enum Doing { FREE, GOES, STANDS, HOME }

    static final class Beast {
        int kind, pace, mood, sentMood, at, to = NONE, toGo, waits, door = NONE, verdict, eaten, lingered;
        Doing doing = Doing.FREE;

        Beast copy() {
            Beast c = new Beast();
            c.kind = kind; c.pace = pace; c.mood = mood; c.sentMood = sentMood; c.at = at; c.to = to;
            c.toGo = toGo; c.waits = waits; c.door = door; c.verdict = verdict; c.eaten = eaten;
            c.lingered = lingered; c.doing = doing;
            return c;
        }
    }

    static final class World {
        int places = 5, hours = 0;
        int[][] ways = new int[8][8];
        List<int[]> doors = new ArrayList<>();
        List<Beast> beasts = new ArrayList<>();
        int[] carrots = new int[8];
        TreeSet<Integer> mares = new TreeSet<>();

        World copy() {
            World w = new World();
            w.places = places; w.hours = hours; w.ways = ways; w.doors = doors; w.mares = mares;
            w.carrots = carrots.clone();
            for (Beast b : beasts) w.beasts.add(b.copy());
            return w;
        }

        /** The best path by trying all: places behind the first one; null if there is none. */
        List<Integer> path(int from, int to) {
            List<Integer> best = null;
            int least = Integer.MAX_VALUE;
            List<List<Integer>> all = new ArrayList<>();
            collect(from, to, new ArrayList<>(List.of(from)), all);
            for (List<Integer> p : all) {
                int sum = 0;
                for (int i = 1; i < p.size(); i++) sum += ways[p.get(i - 1)][p.get(i)];
                // collect goes by the lowest next place first, so the first of several stays
                if (sum < least) { least = sum; best = p.subList(1, p.size()); }
            }
            return best;
        }

        private void collect(int at, int to, List<Integer> been, List<List<Integer>> all) {
            if (at == to) { all.add(new ArrayList<>(been)); return; }
            for (int x = 0; x < places; x++) {
                if (ways[at][x] > 0 && !been.contains(x)) {
                    been.add(x);
                    collect(x, to, been, all);
                    been.remove(been.size() - 1);
                }
            }
        }

        int target(Beast b) { return b.doing == Doing.HOME ? 0 : doors.get(b.door)[1]; }

        void arriveForGood(Beast b) { b.doing = b.doing == Doing.HOME ? Doing.FREE : Doing.STANDS; }

        void hour(int but) {
            for (int i = 0; i < beasts.size(); i++) {
                Beast b = beasts.get(i);
                if (i == but || b.doing == Doing.FREE || b.doing == Doing.STANDS) continue;
                if (b.waits > 0) { b.waits--; continue; }
                int target = target(b);
                if (b.to == NONE && b.at == target) { arriveForGood(b); continue; }
                if (b.to == NONE) {
                    b.to = path(b.at, target).get(0);
                    b.toGo = ways[b.at][b.to] * b.pace;
                }
                b.toGo--;
                if (b.toGo > 0) continue;
                b.at = b.to;
                b.to = NONE;
                int wait = 0;
                if (carrots[b.at] > 0 && b.kind != 3) { carrots[b.at]--; b.eaten++; wait = 1; }
                if (mares.contains(b.at) && (b.kind == 0 || b.kind == 2)) { b.lingered++; wait += 2; }
                if (b.at == target) arriveForGood(b); else b.waits = wait;
            }
            hours++;
        }

        boolean canSend(int b, int d) {
            return beasts.get(b).doing == Doing.FREE && path(0, doors.get(d)[1]) != null;
        }

        void send(int i, int v, int d) {
            Beast b = beasts.get(i);
            b.sentMood = b.mood;
            b.mood = b.mood == 9 ? 0 : b.mood + 1;
            b.doing = Doing.GOES; b.verdict = v; b.door = d; b.eaten = 0; b.lingered = 0;
        }

        void home(int i) { beasts.get(i).doing = Doing.HOME; beasts.get(i).door = NONE; }

        int sign(int i, int v) {
            Beast b = beasts.get(i);
            int s = v;
            if (b.kind == 1 && b.sentMood % 2 != 0) s = 7 - v;
            if (b.kind == 2 && b.sentMood > 4 && v < 7) s = v + 1;
            for (int c = 0; c < b.eaten && s > 0; c++) s--;
            for (int c = 0; c < b.lingered; c++) s = s < 2 ? 0 : s - 2;
            return s;
        }

        int read(int i, int v) {
            int s = sign(i, v);
            int kind = doors.get(beasts.get(i).door)[0];
            return kind == 0 ? s : kind == 1 ? s & 6 : kind == 2 ? (s < 4 ? 4 : s) : s >> 1;
        }

        int read(int i) { return read(i, beasts.get(i).verdict); }

        /** The world as it first stands, its hours set to how many that took; null if it does not. */
        World until(int i) {
            World w = copy();
            for (w.hours = 0; w.hours <= 99; ) {
                if (w.beasts.get(i).doing == Doing.STANDS) return w;
                w.hour(NONE);
            }
            return null;
        }

        World sentUntil(int b, int v, int d) {
            if (!canSend(b, d)) return null;
            World w = copy();
            w.send(b, v, d);
            return w.until(b);
        }
    }

    private final StringBuilder text = new StringBuilder();
    private World now = parse(FIRST);
    private Deque<World> past = new ArrayDeque<>();
    private Deque<World> kept = new ArrayDeque<>();

    private static int faultAt;

    /** The world of a text; null with faultAt if there is a fault. */
    private static World parse(String t) {
        World w = new World();
        Matcher m = ITEM.matcher(t);
        boolean onlyN = true;
        int pos = 0;
        faultAt = NONE;
        while (pos < t.length()) {
            if (!m.find(pos) || m.start() != pos) { faultAt = pos; return null; }
            char c = m.group(1).charAt(0);
            String[] parts = m.group(2).split(",");
            int[] a = new int[parts.length];
            for (int i = 0; i < a.length; i++) a[i] = Integer.parseInt(parts[i]);
            if (!item(w, c, a, onlyN)) { faultAt = pos; return null; }
            onlyN &= c == 'n';
            pos = m.end();
        }
        return w;
    }

    private static boolean item(World w, char c, int[] a, boolean onlyN) {
        int want = "nm".indexOf(c) >= 0 ? 1 : "dc".indexOf(c) >= 0 ? 2 : 3;
        if (a.length != want) return false;
        switch (c) {
            case 'n':
                if (!onlyN || a[0] < 1 || a[0] > 8) return false;
                w.places = a[0];
                return true;
            case 'w':
                if (a[0] >= w.places || a[1] >= w.places || a[0] == a[1] || a[2] < 1 || a[2] > 9) return false;
                w.ways[a[0]][a[1]] = a[2];
                w.ways[a[1]][a[0]] = a[2];
                return true;
            case 'd':
                if (a[0] > 3 || a[1] >= w.places || w.doors.size() == 4) return false;
                w.doors.add(a);
                return true;
            case 'b':
                if (a[0] > 3 || a[1] < 1 || a[1] > 3 || a[2] > 9 || w.beasts.size() == 5) return false;
                Beast b = new Beast();
                b.kind = a[0]; b.pace = a[1]; b.mood = a[2];
                w.beasts.add(b);
                return true;
            case 'c':
                if (a[0] >= w.places || a[1] > 9) return false;
                w.carrots[a[0]] = a[1];
                return true;
            default:
                if (a[0] >= w.places) return false;
                w.mares.add(a[0]);
                return true;
        }
    }

    private boolean p(int x) { return 0 <= x && x < now.places; }
    private boolean d(int x) { return 0 <= x && x < now.doors.size(); }
    private boolean b(int x) { return 0 <= x && x < now.beasts.size(); }
    private static boolean in(int x, int low, int high) { return low <= x && x <= high; }
    private Doing doing(int b) { return now.beasts.get(b).doing; }
    private boolean carries(int b) { return doing(b) == Doing.GOES || doing(b) == Doing.STANDS; }

    private void remember() {
        past.addLast(now.copy());
        if (past.size() > 8) past.removeFirst();
    }

    int write(int l) {
        if (!in(l, 32, 126)) return BAD;
        if (text.length() == 200) return FULL;
        return text.append((char) l).length();
    }

    int wipe() { int n = text.length(); text.setLength(0); return n; }

    int fault() { parse(text.toString()); return faultAt; }

    int lay() {
        World w = parse(text.toString());
        if (w == null || w.doors.isEmpty() || w.beasts.isEmpty()) return NO;
        now = w;
        past.clear();
        kept.clear();
        return w.beasts.size();
    }

    int place(int x, int what) {
        if (!p(x) || !in(what, 0, 2)) return BAD;
        if (what == 0) return now.carrots[x];
        if (what == 1) return now.mares.contains(x) ? 1 : 0;
        return (int) now.beasts.stream().filter(q -> q.to == NONE && q.at == x).count();
    }

    int way(int a, int c) {
        if (!p(a) || !p(c) || a == c) return BAD;
        return now.ways[a][c] == 0 ? NONE : now.ways[a][c];
    }

    int door(int d, int what) { return d(d) && in(what, 0, 1) ? now.doors.get(d)[what] : BAD; }

    int beast(int i, int what) {
        if (!b(i) || !in(what, 0, 7)) return BAD;
        Beast q = now.beasts.get(i);
        return new int[] {q.kind, q.pace, q.mood, q.doing.ordinal(), q.at, q.to,
            q.to == NONE ? q.waits : q.toGo, q.door}[what];
    }

    int sign(int i, int what) {
        if (!b(i) || !in(what, 0, 2)) return BAD;
        if (!carries(i)) return NO;
        Beast q = now.beasts.get(i);
        return what == 0 ? now.sign(i, q.verdict) : what == 1 ? q.eaten : q.lingered;
    }

    int send(int i, int v, int d) {
        if (!b(i) || !in(v, 0, 7) || !d(d)) return BAD;
        if (!now.canSend(i, d)) return NO;
        remember();
        now.send(i, v, d);
        return now.beasts.get(i).mood;
    }

    int pass(int n) {
        if (!in(n, 1, 24)) return BAD;
        remember();
        for (int i = 0; i < n; i++) now.hour(NONE);
        return now.hours;
    }

    int home(int i) {
        if (!b(i)) return BAD;
        if (doing(i) != Doing.STANDS) return NO;
        remember();
        int r = now.read(i);
        now.home(i);
        return r;
    }

    int carrots(int x, int c) {
        if (!p(x) || !in(c, 0, 9)) return BAD;
        remember();
        int was = now.carrots[x];
        now.carrots[x] = c;
        return was;
    }

    int undo() {
        if (past.isEmpty()) return NO;
        now = past.removeLast();
        return past.size();
    }

    int arrives(int i) {
        if (!b(i)) return BAD;
        if (!carries(i)) return NO;
        World w = now.until(i);
        return w == null ? NONE : w.hours;
    }

    int reading(int i) {
        if (!b(i)) return BAD;
        if (!carries(i)) return NO;
        World w = now.until(i);
        return w == null ? NONE : w.read(i);
    }

    int right(int d, int v) {
        if (!d(d) || !in(v, 0, 7)) return BAD;
        int bits = 0;
        for (int i = 0; i < now.beasts.size(); i++) {
            World w = now.sentUntil(i, v, d);
            if (w != null && w.read(i) == v) bits += 1 << i;
        }
        return bits;
    }

    int soonest(int d, int v) {
        int bits = right(d, v);
        if (bits == BAD) return BAD;
        int best = NONE;
        for (int i = now.beasts.size() - 1; i >= 0; i--) {
            if ((bits & 1 << i) != 0 && (best == NONE
                || now.sentUntil(i, v, d).hours <= now.sentUntil(best, v, d).hours)) best = i;
        }
        return best;
    }

    int tell(int i, int d, int v) {
        if (!b(i) || !d(d) || !in(v, 0, 7)) return BAD;
        if (doing(i) != Doing.FREE) return NO;
        for (int u = 0; u < 8; u++) {
            World w = now.sentUntil(i, u, d);
            if (w != null && w.read(i) == v) return u;
        }
        return NONE;
    }

    private int bestSum;
    private List<Integer> bestHand;

    int deal(int v, int k) {
        if (!in(v, 0, 7) || !in(k, -1, now.doors.size() - 1)) return BAD;
        bestSum = Integer.MAX_VALUE;
        bestHand = null;
        deal(v, new ArrayList<>());
        return bestHand == null ? NONE : k == -1 ? bestSum : bestHand.get(k);
    }

    private void deal(int v, List<Integer> hand) {
        if (hand.size() < now.doors.size()) {
            for (int i = 0; i < now.beasts.size(); i++) {
                if (hand.contains(i) || !now.canSend(i, hand.size())) continue;
                hand.add(i);
                deal(v, hand);
                hand.remove(hand.size() - 1);
            }
            return;
        }
        World w = now.copy();
        for (int d = 0; d < hand.size(); d++) w.send(hand.get(d), v, d);
        int sum = 0;
        for (int i : hand) {
            World end = w.until(i);
            if (end == null || end.read(i) != v) return;
            sum += end.hours;
        }
        if (sum < bestSum) { bestSum = sum; bestHand = new ArrayList<>(hand); }
    }

    int lure(int i) {
        if (!b(i)) return BAD;
        if (doing(i) != Doing.GOES) return NO;
        int asIs = reading(i);
        int least = asIs;
        int best = NONE;
        for (int x = now.places - 1; x >= 0 && asIs != NONE; x--) {
            if (now.carrots[x] == 9) continue;
            now.carrots[x]++;
            int r = reading(i);
            now.carrots[x]--;
            if (r != NONE && r < asIs && r <= least) { least = r; best = x; }
        }
        return best;
    }

    int next(int i, int k) {
        if (!b(i) || k < 0) return BAD;
        if (doing(i) == Doing.FREE || doing(i) == Doing.STANDS) return NO;
        Beast q = now.beasts.get(i);
        List<Integer> all = new ArrayList<>();
        if (q.to != NONE) all.add(q.to);
        all.addAll(now.path(q.to == NONE ? q.at : q.to, now.target(q)));
        return k < all.size() ? all.get(k) : NONE;
    }

    int meet(int i, int j) {
        if (!b(i) || !b(j) || i == j) return BAD;
        World w = now.copy();
        for (int h = 0; h <= 60; h++) {
            Beast q = w.beasts.get(i), r = w.beasts.get(j);
            if (q.at == r.at && q.to == NONE && r.to == NONE) return h;
            w.hour(NONE);
        }
        return NONE;
    }

    int told(int i, int s) {
        if (!b(i) || !in(s, 0, 7)) return BAD;
        if (!carries(i)) return NO;
        int bits = 0;
        for (int v = 7; v >= 0; v--) bits = bits * 2 + (now.sign(i, v) == s ? 1 : 0);
        return bits;
    }

    int who(int d, int r, int what) {
        if (!d(d) || !in(r, 0, 7) || !in(what, 0, 1)) return BAD;
        List<Integer> all = new ArrayList<>();
        for (int i = 0; i < now.beasts.size(); i++) {
            for (int v = 0; v < 8; v++) {
                World w = now.sentUntil(i, v, d);
                if (w != null && w.read(i) == r) all.add(10 * i + v);
            }
        }
        return what == 0 ? all.size() : all.isEmpty() ? NONE : all.get(0);
    }

    int balks(int i, int n, int x, int part) {
        if (!b(i) || !in(n, 0, 8) || !in(x, 0, 10) || !in(part, 0, 1)) return BAD;
        BigInteger above = BigInteger.ZERO;
        for (int mask = 0; mask < 1 << n; mask++) {
            World w = now.copy();
            BigInteger weight = BigInteger.ONE;
            for (int h = 0; h < n; h++) {
                boolean stays = (mask >> h & 1) == 1;
                weight = weight.multiply(BigInteger.valueOf(stays ? x : 10 - x));
                w.hour(stays ? i : NONE);
            }
            if (w.beasts.get(i).doing == Doing.STANDS) above = above.add(weight);
        }
        BigInteger below = BigInteger.TEN.pow(n);
        BigInteger g = above.gcd(below);
        return (part == 0 ? above : below).divide(g).intValueExact();
    }

    int year(int z, int n, int what) {
        if (!in(z, 0, 9999) || !in(n, 1, 60) || !in(what, 0, 1)) return BAD;
        World w = now.copy();
        for (int k = 0; k < n; k++) {
            BigInteger x = BigInteger.valueOf(7919L * z + 6151L * k + 1);
            int draw = x.multiply(x).mod(BigInteger.valueOf(65521)).intValueExact();
            int i = draw / 8 % w.beasts.size();
            int d = draw / 512 % w.doors.size();
            switch (draw % 8) {
                case 0: case 1: case 2:
                    if (w.canSend(i, d)) w.send(i, draw / 64 % 8, d);
                    break;
                case 3:
                    if (w.beasts.get(i).doing == Doing.STANDS) w.home(i);
                    break;
                case 4:
                    w.carrots[draw / 8 % w.places] = draw / 64 % 10;
                    break;
                default:
                    break;
            }
            w.hour(NONE);
        }
        int stand = 0, read = 0;
        for (int i = 0; i < w.beasts.size(); i++) {
            if (w.beasts.get(i).doing != Doing.STANDS) continue;
            stand++;
            read += w.read(i);
        }
        return what == 0 ? stand : read;
    }

    int keep() {
        if (kept.size() == 2) return FULL;
        kept.addLast(now.copy());
        return kept.size();
    }

    int back() {
        if (kept.isEmpty()) return NO;
        now = kept.removeLast();
        past.clear();
        return kept.size();
    }

    int count(int what) {
        if (!in(what, 0, 12)) return BAD;
        int ways = 0, carrots = 0;
        for (int a = 0; a < 8; a++) {
            carrots += now.carrots[a];
            for (int c = 0; c < a; c++) ways += now.ways[a][c] > 0 ? 1 : 0;
        }
        int[] doing = new int[4];
        for (Beast q : now.beasts) doing[q.doing.ordinal()]++;
        return new int[] {now.places, now.doors.size(), now.beasts.size(), ways, now.hours, doing[0], doing[1],
            doing[2], doing[3], carrots, past.size(), kept.size(), text.length()}[what];
    }
}
