import java.util.Random;

/** Runs of calls drawn by seed: the class and the Model answer alike. */
public final class ModelTest {
    private static final int RUNS = 400, CALLS = 512;

    private final Random random;
    private final DonkeyVerdicts x = new DonkeyVerdicts();
    private final Model m = new Model();
    private int calls = 0;

    private ModelTest(int seed) {
        random = new Random(seed);
    }

    public static void main(String[] args) {
        for (int seed = 0; seed < RUNS; seed++) {
            new ModelTest(seed).run(seed);
        }
        Check.finish();
    }

    private void run(int seed) {
        if (seed % 8 != 0) {
            court();
        }
        while (calls < CALLS) {
            int r = random.nextInt(60);
            if (r == 0 && seed % 4 == 1) {
                court();
            } else if (r < 26) {
                deed(seed);
            } else {
                question(seed);
            }
        }
    }

    private void same(String call, int got, int want) {
        calls++;
        Check.due("call " + calls + ": " + call, got, want);
    }

    /** A number that mostly is below n, at times just outside, at times far off. */
    private int number(int n) {
        int r = random.nextInt(40);
        if (r == 0) return -1;
        if (r == 1) return n;
        if (r == 2) return random.nextInt();
        if (r == 3 && random.nextInt(4) == 0) return random.nextBoolean() ? Integer.MAX_VALUE : Integer.MIN_VALUE;
        return random.nextInt(Math.max(n, 1));
    }

    private int any(int n) { return random.nextInt(n); }

    private String drawText() {
        StringBuilder t = new StringBuilder();
        int n = 5;
        if (any(6) > 0) {
            n = 1 + any(8);
            t.append('n').append(n).append(';');
        }
        int ways = n + any(5);
        int longest = any(4) == 0 ? 9 : any(2) == 0 ? 5 : 2;
        for (int i = 0; i < ways && n > 1; i++) {
            int a = i < n - 1 && any(8) > 0 ? i : any(n);
            int c = i < n - 1 && any(8) > 0 ? i + 1 : any(n);
            if (a != c) t.append('w').append(a).append(',').append(c).append(',').append(1 + any(longest)).append(';');
        }
        for (int i = 1 + any(4); i > 0; i--) t.append('d').append(any(4)).append(',').append(any(n)).append(';');
        for (int i = 1 + any(5); i > 0; i--) {
            t.append('b').append(any(4)).append(',').append(1 + any(3)).append(',').append(any(10)).append(';');
        }
        for (int i = any(5); i > 0; i--) t.append('c').append(any(n)).append(',').append(any(i == 1 ? 10 : 3)).append(';');
        for (int i = any(3); i > 0; i--) t.append('m').append(any(n)).append(';');
        if (any(6) == 0) spoil(t);
        return t.toString();
    }

    private void spoil(StringBuilder t) {
        String signs = "nwdbcm0123456789,; x";
        int at = any(t.length());
        char sign = signs.charAt(any(signs.length()));
        switch (any(3)) {
            case 0: t.setCharAt(at, sign); break;
            case 1: t.insert(at, sign); break;
            default: t.deleteCharAt(at); break;
        }
    }

    private void court() {
        String t = drawText();
        same("wipe()", x.wipe(), m.wipe());
        for (int i = 0; i < t.length(); i++) same("write(" + t.charAt(i) + ")", x.write(t.charAt(i)), m.write(t.charAt(i)));
        same("fault() of " + t, x.fault(), m.fault());
        same("lay() of " + t, x.lay(), m.lay());
    }

    private int beast() { return number(m.count(2)); }
    private int door() { return number(m.count(1)); }
    private int place() { return number(m.count(0)); }
    private int verdict() { return number(8); }

    private void deed(int seed) {
        switch (any(seed % 3 == 0 ? 11 : 16)) {
            case 0: case 1: case 2: case 3: { int b = beast(), v = verdict(), d = door();
                same("send(" + b + ", " + v + ", " + d + ")", x.send(b, v, d), m.send(b, v, d)); break; }
            case 4: case 5: case 6: { int n = any(5) == 0 ? number(25) : 1 + any(4);
                same("pass(" + n + ")", x.pass(n), m.pass(n)); break; }
            case 7: case 8: { int b = beast();
                same("home(" + b + ")", x.home(b), m.home(b)); break; }
            case 9: case 10: { int p = place(), c = number(10);
                same("carrots(" + p + ", " + c + ")", x.carrots(p, c), m.carrots(p, c)); break; }
            case 11: case 12: same("undo()", x.undo(), m.undo()); break;
            case 13: same("keep()", x.keep(), m.keep()); break;
            case 14: if (any(3) == 0) same("back()", x.back(), m.back()); else same("undo()", x.undo(), m.undo()); break;
            default: { int l = any(3) == 0 ? number(127) : 32 + any(95);
                same("write(" + l + ")", x.write(l), m.write(l));
                same("fault()", x.fault(), m.fault()); break; }
        }
    }

    private void question(int seed) {
        int b = beast(), d = door(), v = verdict();
        switch (any(22)) {
            case 0: { int p = place(), w = number(3); same("place(" + p + ", " + w + ")", x.place(p, w), m.place(p, w)); break; }
            case 1: { int p = place(), q = place(); same("way(" + p + ", " + q + ")", x.way(p, q), m.way(p, q)); break; }
            case 2: { int w = number(2); same("door(" + d + ", " + w + ")", x.door(d, w), m.door(d, w)); break; }
            case 3: case 4: case 5: { int w = number(8); same("beast(" + b + ", " + w + ")", x.beast(b, w), m.beast(b, w)); break; }
            case 6: { int w = number(3); same("sign(" + b + ", " + w + ")", x.sign(b, w), m.sign(b, w)); break; }
            case 7: same("arrives(" + b + ")", x.arrives(b), m.arrives(b)); break;
            case 8: same("reading(" + b + ")", x.reading(b), m.reading(b)); break;
            case 9: same("right(" + d + ", " + v + ")", x.right(d, v), m.right(d, v)); break;
            case 10: same("soonest(" + d + ", " + v + ")", x.soonest(d, v), m.soonest(d, v)); break;
            case 11: same("tell(" + b + ", " + d + ", " + v + ")", x.tell(b, d, v), m.tell(b, d, v)); break;
            case 12: { int k = number(m.count(1) + 1) - 1; same("deal(" + v + ", " + k + ")", x.deal(v, k), m.deal(v, k)); break; }
            case 13: same("lure(" + b + ")", x.lure(b), m.lure(b)); break;
            case 14: { int k = number(5); same("next(" + b + ", " + k + ")", x.next(b, k), m.next(b, k)); break; }
            case 15: { int c = beast(); same("meet(" + b + ", " + c + ")", x.meet(b, c), m.meet(b, c)); break; }
            case 16: same("told(" + b + ", " + v + ")", x.told(b, v), m.told(b, v)); break;
            case 17: { int w = number(2); same("who(" + d + ", " + v + ", " + w + ")", x.who(d, v, w), m.who(d, v, w)); break; }
            case 18: { int n = number(9), t = number(11), w = number(2);
                same("balks(" + b + ", " + n + ", " + t + ", " + w + ")", x.balks(b, n, t, w), m.balks(b, n, t, w)); break; }
            case 19: { int z = number(10000), n = number(61), w = number(2);
                same("year(" + z + ", " + n + ", " + w + ")", x.year(z, n, w), m.year(z, n, w)); break; }
            default: { int w = number(13); same("count(" + w + ")", x.count(w), m.count(w)); break; }
        }
    }
}
