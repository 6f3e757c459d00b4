import java.util.ArrayList;
import java.util.List;

/** Runs of 512 calls on new objects, each answer against Naive's; the same runs each time. */
public final class RandomRunsTest {
    private static final int RUNS = 1200;
    private static final int CALLS = 512;
    private static final int NONE = RootedRing.NONE;
    private static final String SIGNS = "0123456789tgp#()+-*^mri \n";

    private static final List<int[]> RINGS = new ArrayList<>();

    private long seed;
    private RootedRing x;
    private Naive y;
    private final List<String> calls = new ArrayList<>();

    public static void main(String[] args) {
        for (int i = 0; i < 240; i++) {
            int[] ring = {"2357".charAt(i / 60) - '0', 1 + i / 15 % 4, 1 + i % 15};
            if (Naive.exists(ring[0], ring[1], ring[2])) {
                RINGS.add(ring);
            }
        }
        RandomRunsTest test = new RandomRunsTest();
        for (int run = 1; run <= RUNS && !Check.anyWrong(); run++) {
            test.run(run);
        }
        Check.end("RandomRunsTest");
    }

    private void run(int number) {
        seed = number * 1_000_003L;
        x = new RootedRing();
        y = new Naive();
        calls.clear();
        if (number % 6 != 0) {
            ringOf(RINGS.get(number % RINGS.size()));
        }
        while (calls.size() < CALLS && !Check.anyWrong()) {
            turn();
        }
        if (Check.anyWrong()) {
            System.out.println("run " + number + ":");
            for (String call : calls.subList(Math.max(0, calls.size() - 40), calls.size())) {
                System.out.println("    " + call);
            }
        }
    }

    /** 0 to bound - 1. */
    private int any(int bound) {
        seed = seed * 6364136223846793005L + 1442695040888963407L;
        return (int) ((seed >>> 33) % bound);
    }

    private boolean once(int in) {
        return any(in) == 0;
    }

    /** Mostly from low to high, at times beside it or far away. */
    private int number(int low, int high) {
        if (once(25)) {
            int[] odd = {low - 1, high + 1, low - 2, high + 2, Integer.MIN_VALUE, Integer.MAX_VALUE, -high, 2 * high};
            return odd[any(odd.length)];
        }
        return low + any(Math.max(1, high - low + 1));
    }

    private void same(String call, Check.Call a, Check.Call b) {
        int due = Check.outcome(b);
        calls.add(call + " -> " + Check.told(due));
        Check.same(call, Check.outcome(a), due);
    }

    private void turn() {
        if (once(40)) {
            feed(new int[any(220)]);
        }
        switch (any(14)) {
            case 0:
                if (once(2)) {
                    newRing();
                }
                break;
            case 1:
            case 2:
                text();
                break;
            case 3:
            case 4:
                ofElements();
                break;
            case 5:
                found();
                break;
            case 6:
                counts();
                break;
            case 7:
                newCode();
                break;
            case 8:
            case 9:
            case 10:
                newWord();
                break;
            case 11:
            case 12:
                ofWord();
                break;
            default:
                ofCode();
        }
    }

    private void newRing() {
        if (once(3)) {
            ringOf(new int[] {number(0, 9), number(1, 4), number(1, 6)});
        } else {
            ringOf(RINGS.get(any(RINGS.size())));
        }
    }

    private void ringOf(int[] three) {
        int p = three[0];
        int e = three[1];
        int r = three[2];
        same("ring(" + p + ", " + e + ", " + r + ")", () -> x.ring(p, e, r), () -> y.ring(p, e, r));
    }

    private int element() {
        return number(0, y.told.size - 1);
    }

    private void feed(int[] bytes) {
        for (int i = 0; i < bytes.length; i += 20) {
            int[] f = new int[5];
            for (int j = 0; j < 20; j++) {
                int b = i + j < bytes.length ? bytes[i + j] : once(2) ? 32 : any(256);
                f[j / 4] = f[j / 4] << 8 | b;
            }
            same("feed(" + f[0] + ", " + f[1] + ", " + f[2] + ", " + f[3] + ", " + f[4] + ")",
                () -> x.feed(f[0], f[1], f[2], f[3], f[4]), () -> y.feed(f[0], f[1], f[2], f[3], f[4]));
        }
    }

    private void text() {
        StringBuilder text = new StringBuilder();
        expression(text, 1 + any(6));
        if (text.length() > 195) {
            text.setLength(195);
        }
        if (once(3)) {
            int at = any(text.length() + 1);
            char sign = once(8) ? (char) any(256) : SIGNS.charAt(any(SIGNS.length()));
            if (once(2) && at < text.length()) {
                text.setCharAt(at, sign);
            } else {
                text.insert(at, sign);
            }
        }
        int length = once(15) ? any(text.length() + 1) : text.length();
        int left = y.tape.size();
        if (left > 0 && !once(20)) {
            int place = number(0, 7);
            same("tell(" + place + ", " + left + ")", () -> x.tell(place, left), () -> y.tell(place, left));
        }
        int before = y.tape.size();
        feed(text.toString().chars().toArray());
        int place = number(0, 7);
        int n = before > 0 || once(30) ? number(0, y.tape.size()) : length;
        calls.add("// " + text.toString().replace('\n', '~'));
        same("tell(" + place + ", " + n + ")", () -> x.tell(place, n), () -> y.tell(place, n));
        same("fault()", x::fault, y::fault);
        if (place >= 0 && place < 8) {
            int kept = y.places[place];
            same("put(" + place + ", 0)", () -> x.put(place, 0), () -> y.put(place, 0));
            same("put(" + place + ", " + kept + ")", () -> x.put(place, kept), () -> y.put(place, kept));
        }
        same("count(10)", () -> x.count(10), () -> y.count(10));
    }

    private void blank(StringBuilder text) {
        if (once(12)) {
            text.append(once(2) ? ' ' : '\n');
        }
    }

    private void expression(StringBuilder text, int size) {
        atom(text, size);
        int more = any(4);
        for (int i = 0; i < more; i++) {
            blank(text);
            if (once(4)) {
                text.append('^');
                blank(text);
                text.append(once(6) ? number(0, 9999) : any(12));
                blank(text);
            }
            text.append("+-*".charAt(any(3)));
            atom(text, size - 1);
        }
    }

    private void atom(StringBuilder text, int size) {
        blank(text);
        switch (any(size > 0 ? 10 : 5)) {
            case 0:
                text.append(once(5) ? "00" : "").append(once(8) ? number(0, 9999) : any(60));
                break;
            case 1:
                text.append('t');
                break;
            case 2:
                text.append('g');
                break;
            case 3:
                text.append(once(2) ? 'p' : 't');
                break;
            case 4:
                text.append('#');
                blank(text);
                text.append(once(20) ? 8 : any(8));
                break;
            case 5:
            case 6:
                text.append('(');
                expression(text, size - 2);
                blank(text);
                text.append(')');
                break;
            default:
                int many = once(12) ? 1 + any(9) : 1;
                for (int i = 0; i < many; i++) {
                    text.append("-mri".charAt(once(3) ? any(4) : any(3)));
                }
                atom(text, size - 1);
        }
    }

    private void ofElements() {
        int a = element();
        int b = element();
        int how = number(0, 3);
        same("element(" + how + ", " + a + ", " + b + ")", () -> x.element(how, a, b), () -> y.element(how, a, b));
        int what = number(0, 8);
        same("of(" + a + ", " + what + ")", () -> x.of(a, what), () -> y.of(a, what));
        int i = number(0, y.told.e - 1);
        same("digit(" + a + ", " + i + ")", () -> x.digit(a, i), () -> y.digit(a, i));
        int k = number(0, y.told.q - 2);
        same("sum(" + k + ", " + i + ")", () -> x.sum(k, i), () -> y.sum(k, i));
        int[] d = new int[4];
        for (int j = 0; j < 4; j++) {
            d[j] = j >= y.told.e && !once(30) || once(4) ? NONE : number(0, y.told.q - 2);
        }
        same("whole(" + d[0] + ", " + d[1] + ", " + d[2] + ", " + d[3] + ")",
            () -> x.whole(d[0], d[1], d[2], d[3]), () -> y.whole(d[0], d[1], d[2], d[3]));
        if (once(2)) {
            same("say(" + b + ")", () -> x.say(b), () -> y.say(b));
        }
        int at = number(0, y.spoken.length());
        same("said(" + at + ")", () -> x.said(at), () -> y.said(at));
    }

    private void found() {
        int a = once(3) ? 0 : once(2) ? 1 : element();
        int n = number(1, 30);
        int i = once(2) ? NONE : number(0, 5);
        same("roots(" + a + ", " + n + ", " + i + ")", () -> x.roots(a, n, i), () -> y.roots(a, n, i));
        int places = number(0, 4);
        for (int j = 0; j <= places && j < 8 && once(2); j++) {
            int value = element();
            int at = j;
            same("put(" + j + ", " + value + ")", () -> x.put(at, value), () -> y.put(at, value));
        }
        int degree = number(0, 7);
        same("zeros(" + degree + ", " + i + ")", () -> x.zeros(degree, i), () -> y.zeros(degree, i));
        int d = number(1, y.told.r);
        same("within(" + d + ", " + i + ")", () -> x.within(d, i), () -> y.within(d, i));
    }

    private void counts() {
        int n = once(3) ? number(1, 9999) : number(1, y.told.q);
        same("units(" + n + ")", () -> x.units(n), () -> y.units(n));
        int what = number(0, 3);
        int v = number(0, once(2) ? 6 : y.told.m);
        same("many(" + what + ", " + v + ")", () -> x.many(what, v), () -> y.many(what, v));
        int c = number(0, 12);
        same("count(" + c + ")", () -> x.count(c), () -> y.count(c));
        int i = number(0, y.told.r);
        same("modulus(" + i + ")", () -> x.modulus(i), () -> y.modulus(i));
    }

    private int length() {
        if (once(30)) {
            return number(0, 64);
        }
        List<Integer> all = new ArrayList<>();
        for (int n = 1; n <= 63; n++) {
            if ((y.told.q - 1) % n == 0) {
                all.add(n);
            }
        }
        return all.get(once(4) ? any(all.size()) : all.size() - 1 - any((all.size() + 1) / 2));
    }

    private void newCode() {
        int n = length();
        int i = once(3) ? NONE : number(0, 6);
        int k = once(3) ? NONE : number(0, 3);
        same("classes(" + n + ", " + i + ", " + k + ")", () -> x.classes(n, i, k), () -> y.classes(n, i, k));
        int all = Math.max(1, Check.outcome(() -> y.classes(n, NONE, 0)));
        int most = all >= 31 ? Integer.MAX_VALUE : (1 << all) - 1;
        int set = once(15) ? number(0, most) : once(3) ? most & ~(1 << any(all)) : any(2 + most / 2) | any(1 + most);
        same("code(" + n + ", " + set + ")", () -> x.code(n, set), () -> y.code(n, set));
        ofCode();
    }

    private void ofCode() {
        int which = number(0, 1);
        int i = once(3) ? NONE : number(0, y.n - 1);
        same("coefficient(" + which + ", " + i + ")", () -> x.coefficient(which, i), () -> y.coefficient(which, i));
        boolean lee = once(2);
        int w = number(0, lee ? y.n * (1 + y.told.m / 4) : y.n);
        same("weighing(" + lee + ", " + w + ")", () -> x.weighing(lee, w), () -> y.weighing(lee, w));
        same("lightest(" + lee + ")", () -> x.lightest(lee), () -> y.lightest(lee));
        int c = 8 + any(2);
        same("count(" + c + ")", () -> x.count(c), () -> y.count(c));
    }

    /** A WORD of the CODE with some numbers changed, or any bytes. */
    private void newWord() {
        int n = y.n;
        int m = y.told.m;
        int[] row = new int[n];
        int size = n - (y.maker.length - 1);
        for (int j = 0; j < size; j++) {
            int by = once(3) ? any(m) : 0;
            for (int k = 0; k < y.maker.length; k++) {
                row[j + k] = (row[j + k] + by * y.maker[k]) % m;
            }
        }
        for (int changes = any(4); changes > 0; changes--) {
            row[any(n)] = once(40) ? Math.min(255, m) : any(m);
        }
        for (int j = 0; j < n; j++) {
            row[j] = m > 256 && row[j] > 255 ? any(256) : row[j];
        }
        if (y.tape.size() > 0 && !once(20)) {
            same("tell(0, 0)", () -> x.tell(0, 0), () -> y.tell(0, 0));
        }
        if (!once(20)) {
            feed(row);
        }
        same("word()", x::word, y::word);
        ofWord();
    }

    private void ofWord() {
        int i = number(0, y.n - 1);
        same("number(" + i + ")", () -> x.number(i), () -> y.number(i));
        int k = number(0, Math.max(0, y.maker.length - 2));
        same("rest(" + k + ")", () -> x.rest(k), () -> y.rest(k));
        for (int j = 0; j < 3; j++) {
            int what = once(20) ? number(0, 2) : j;
            same("mend(" + what + ")", () -> x.mend(what), () -> y.mend(what));
        }
        same("nearest(-1)", () -> x.nearest(NONE), () -> y.nearest(NONE));
        int j = number(NONE, y.n - 1);
        same("nearest(" + j + ")", () -> x.nearest(j), () -> y.nearest(j));
    }
}
