import java.util.function.IntFunction;

/** Each RING that there is, all or many of its ELEMENTS, against Naive. */
public final class EveryRingTest {
    private static final int NONE = RootedRing.NONE;

    private RootedRing x = new RootedRing();
    private final Naive y = new Naive();
    private String where = "";

    public static void main(String[] args) {
        EveryRingTest test = new EveryRingTest();
        int rings = 0;
        for (int p = -1; p <= 9; p++) {
            for (int e = -1; e <= 5; e++) {
                for (int r = -1; r <= 7; r++) {
                    test.where = "ring(" + p + ", " + e + ", " + r + ")";
                    int size = test.x.ring(p, e, r);
                    Check.same(test.where, size, test.y.ring(p, e, r));
                    if (size != NONE) {
                        rings++;
                        test.oneRing(size);
                    }
                }
            }
        }
        Check.same("rings", rings, 48);
        Check.end("EveryRingTest");
    }

    private void same(String call, Check.Call a, Check.Call b) {
        Check.same(where + " " + call, Check.outcome(a), Check.outcome(b));
    }

    private void oneRing(int size) {
        for (int i = -1; i <= 13; i++) {
            int what = i;
            same("count " + i, () -> x.count(what), () -> y.count(what));
            same("modulus " + i, () -> x.modulus(what), () -> y.modulus(what));
        }
        elements(size);
        int q = y.told.q;
        for (int k = -1; k < q; k++) {
            for (int i = -1; i <= y.told.e; i++) {
                int a = k;
                int b = i;
                same("sum " + k + " " + i, () -> x.sum(a, b), () -> y.sum(a, b));
            }
        }
        found(size);
        counts();
        lengths();
    }

    private void elements(int size) {
        for (int i = 0; i < size; i++) {
            int a = i;
            for (int j = -1; j <= 9; j++) {
                int what = j;
                same("of " + i + " " + j, () -> x.of(a, what), () -> y.of(a, what));
            }
            int[] d = {NONE, NONE, NONE, NONE};
            for (int j = 0; j < y.told.e; j++) {
                int at = j;
                same("digit " + i + " " + j, () -> x.digit(a, at), () -> y.digit(a, at));
                d[j] = x.digit(a, j);
            }
            same("whole of " + i, () -> x.whole(d[0], d[1], d[2], d[3]), () -> a);
            for (int k = 0; k < 6; k++) {
                int b = (int) ((i * 2654435761L + k * 40503L >>> 7) % size);
                for (int j = 0; j <= 3; j++) {
                    int how = j;
                    same("element " + j + " " + i + " " + b, () -> x.element(how, a, b), () -> y.element(how, a, b));
                }
            }
            same("say " + i, () -> x.say(a), () -> y.say(a));
            for (int j = -1; j <= y.spoken.length(); j++) {
                Check.same(where + " said " + i, x.said(j), y.said(j));
            }
        }
    }

    private void found(int size) {
        int step = Math.max(1, size / 8);
        for (int i = 0; i < size; i += step) {
            for (int n : new int[] {1, 2, 3, 4, 5, 6, 7, 12, 16, 21, 27, 30}) {
                int a = i;
                list("roots " + i + " " + n, k -> () -> x.roots(a, n, k), k -> () -> y.roots(a, n, k), 40);
            }
        }
        for (int round = 0; round < 8; round++) {
            for (int i = 0; i < 8; i++) {
                int value = (int) ((round * 7919L + i * 104729L + size * 31L) % size);
                int made = i > round ? 0 : round == 3 ? y.element(2, value, y.told.p % y.told.m) : value;
                int at = i;
                same("put " + i, () -> x.put(at, made), () -> y.put(at, made));
            }
            int n = round;
            list("zeros " + n, k -> () -> x.zeros(n, k), k -> () -> y.zeros(n, k), 12);
        }
        for (int d = -1; d <= 7; d++) {
            int a = d;
            list("within " + d, k -> () -> x.within(a, k), k -> () -> y.within(a, k), 30);
        }
    }

    private void list(String call, IntFunction<Check.Call> a, IntFunction<Check.Call> b, int most) {
        int many = Check.outcome(b.apply(NONE));
        same(call, a.apply(NONE), b.apply(NONE));
        for (int i = 0; i < many; i += Math.max(1, many / most)) {
            same(call + " " + i, a.apply(i), b.apply(i));
        }
        same(call + " last", a.apply(many - 1), b.apply(many - 1));
        same(call + " behind", a.apply(many), b.apply(many));
        same(call + " ahead", a.apply(-2), b.apply(-2));
    }

    private void counts() {
        for (int n = -1; n <= 130; n++) {
            int a = n;
            same("units " + n, () -> x.units(a), () -> y.units(a));
        }
        for (int n : new int[] {168, 256, 342, 625, 2400, 3124, 4095, 6561, 9999, 10000}) {
            same("units " + n, () -> x.units(n), () -> y.units(n));
        }
        for (int what = -1; what <= 4; what++) {
            for (int v = -1; v <= Math.min(26, y.told.m + 1); v++) {
                int a = what;
                int b = v;
                same("many " + what + " " + v, () -> x.many(a, b), () -> y.many(a, b));
            }
            int a = what;
            same("many greatest", () -> x.many(a, Integer.MAX_VALUE), () -> y.many(a, Integer.MAX_VALUE));
        }
    }

    private void lengths() {
        for (int n = -1; n <= 65; n++) {
            int a = n;
            same("classes " + n, () -> x.classes(a, NONE, 5), () -> y.classes(a, NONE, 5));
            for (int i = -2; i <= 33; i++) {
                int b = i;
                list("classes " + n + " " + i, k -> () -> x.classes(a, b, k), k -> () -> y.classes(a, b, k), 64);
            }
            int all = Check.outcome(() -> y.classes(a, NONE, 0));
            int most = all > 0 && all < 31 ? (1 << all) - 1 : 0;
            for (long set : new long[] {-1, 0, 1, 2, 3, 5, most, most - 1L, most + 1L, most / 3, most / 5,
                Integer.MAX_VALUE, 1 << 30}) {
                same("code " + n + " " + set, () -> x.code(a, (int) set), () -> y.code(a, (int) set));
                codeOf();
            }
        }
    }

    private void codeOf() {
        for (int which = -1; which <= 2; which++) {
            int a = which;
            list("coefficient " + which, k -> () -> x.coefficient(a, k), k -> () -> y.coefficient(a, k), 64);
        }
        same("SIZE", () -> x.count(9), () -> y.count(9));
        same("n", () -> x.count(8), () -> y.count(8));
        same("lightest", () -> x.lightest(false), () -> y.lightest(false));
        same("lightest LEE", () -> x.lightest(true), () -> y.lightest(true));
        boolean few = y.isSmall() && y.allWords().size() <= 3000;
        for (int i = 0; few && i <= Math.min(130, y.n * (y.told.m / 2) + 1); i++) {
            int w = i;
            same("weighing " + i, () -> x.weighing(false, w), () -> y.weighing(false, w));
            same("weighing LEE " + i, () -> x.weighing(true, w), () -> y.weighing(true, w));
        }
    }
}
