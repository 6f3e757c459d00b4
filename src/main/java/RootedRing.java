import java.util.Arrays;
import java.util.NoSuchElementException;

/**
 * Rings of residues of a power of a prime with a root joined, their ROOTS, DIGITS and LOGS,
 * texts of their ELEMENTS, and the cyclic codes that are lifted from below.
 */
public final class RootedRing {
    public static final int NONE = -1;

    private static final int MOST_ELEMENTS = 4096;
    private static final int MOST_E = 4;
    private static final int MOST_R = 6;
    /** 5 to the 5: no other Q of a RING is greater. */
    private static final int MOST_Q = 3125;
    private static final int MOST_N = 63;
    private static final int MOST_WORDS = 65536;
    /** 6 numbers of 1200 each, in the RING of p 7, e 4, r 1: no other LEE weight is greater. */
    private static final int MOST_LEE = 7200;
    private static final int MOST_BYTES = 200;
    private static final int BYTES_FED = 20;
    private static final int PLACES = 8;
    private static final int MOST_NUMBER = 9999;
    private static final int MOST_OPEN = 8;
    private static final int MOST_ROOT = 30;
    private static final int MOST_CLASS = 30;

    private final Galois galois = new Galois();
    private final int[] places = new int[PLACES];
    /** The ELEMENTS that a call has found, rising. */
    private final int[] found = new int[MOST_ELEMENTS];
    private final Tape tape = new Tape();
    private final Reader reader;
    private final Speech speech = new Speech();
    private final Partition partition = new Partition();
    private final CyclicCode cyclic;
    private final Weights weights;
    private final Latest latest;

    public RootedRing() {
        reader = new Reader(galois, places, tape);
        cyclic = new CyclicCode(galois);
        weights = new Weights(cyclic);
        latest = new Latest(cyclic);
        galois.become(2, 1, 1);
        clear();
    }

    public int ring(int p, int e, int r) {
        if (!galois.become(p, e, r)) {
            return NONE;
        }
        clear();
        return galois.size;
    }

    public int feed(int a, int b, int c, int d, int e) {
        if (tape.length + BYTES_FED > MOST_BYTES) {
            return NONE;
        }
        tape.append(a);
        tape.append(b);
        tape.append(c);
        tape.append(d);
        tape.append(e);
        return tape.length;
    }

    public int tell(int place, int n) throws IllegalArgumentException {
        if (place < 0 || place >= PLACES || n < 0 || n > tape.length) {
            throw new IllegalArgumentException();
        }
        int value = reader.read(n);
        tape.length = 0;
        if (reader.wrong > 0) {
            return -10 - reader.wrong;
        }
        if (reader.refused) {
            return -2;
        }
        places[place] = value;
        return value;
    }

    public int fault() {
        return reader.wrongPlace;
    }

    public int put(int place, int x) throws NoSuchElementException {
        need(place >= 0 && place < PLACES && galois.has(x));
        int before = Sure.at(places, place);
        Sure.set(places, place, x);
        return before;
    }

    public int count(int what) throws NoSuchElementException {
        switch (what) {
            case 0:
                return galois.p;
            case 1:
                return galois.e;
            case 2:
                return galois.r;
            case 3:
                return galois.m;
            case 4:
                return galois.q;
            case 5:
                return galois.size;
            case 6:
                return galois.size - Sure.quotient(galois.size, galois.q);
            case 7:
                return galois.generator;
            case 8:
                return cyclic.n;
            case 9:
                return cyclic.chosen;
            case 10:
                return tape.length;
            case 11:
                return divisors(galois.r);
            case 12:
                return galois.commonOrder();
            default:
                throw new NoSuchElementException();
        }
    }

    public int modulus(int i) throws NoSuchElementException {
        need(i >= 0 && i <= galois.r);
        return Sure.at(galois.lifted, i);
    }

    public int element(int how, int x, int y) throws NoSuchElementException {
        need(galois.has(x) && galois.has(y));
        switch (how) {
            case 0:
                return galois.plus(x, y);
            case 1:
                return galois.minus(x, y);
            case 2:
                return galois.times(x, y);
            case 3:
                need(galois.isUnit(y));
                return galois.times(x, galois.inverse(y));
            default:
                throw new NoSuchElementException();
        }
    }

    public int of(int x, int what) throws NoSuchElementException {
        need(galois.has(x));
        switch (what) {
            case 0:
                return galois.level(x);
            case 1:
                return galois.rootOf(x);
            case 2:
                return galois.moved(x);
            case 3:
                return galois.trace(x);
            case 4:
                return galois.norm(x);
            case 5:
                return galois.leastWithin(x);
            case 6:
                return galois.isUnit(x) ? galois.oneBelow(x) : NONE;
            case 7:
                return galois.isUnit(x) ? galois.order(x) : NONE;
            case 8:
                return galois.isUnit(x) ? galois.inverse(x) : NONE;
            default:
                throw new NoSuchElementException();
        }
    }

    public int digit(int x, int i) throws NoSuchElementException {
        need(galois.has(x) && i >= 0 && i < galois.e);
        return galois.digitLog(x, i);
    }

    public int whole(int d0, int d1, int d2, int d3) throws NoSuchElementException {
        need(canStand(d0, 0) && canStand(d1, 1) && canStand(d2, 2) && canStand(d3, 3));
        int x = galois.withDigit(0, 0, d0);
        x = galois.withDigit(x, 1, d1);
        x = galois.withDigit(x, 2, d2);
        return galois.withDigit(x, 3, d3);
    }

    public int sum(int k, int i) throws NoSuchElementException {
        need(k >= 0 && k <= galois.q - 2 && i >= 0 && i < galois.e);
        return galois.digitLog(galois.plus(1, Sure.at(galois.powers, k)), i);
    }

    public int roots(int x, int n, int i) throws NoSuchElementException {
        need(galois.has(x) && n >= 1 && n <= MOST_ROOT);
        int many = 0;
        for (int y = 0; y < galois.size && many < found.length; y++) {
            if (galois.mayReach(y, n, x) && galois.power(y, n) == x) {
                found[many] = y;
                many++;
            }
        }
        return manyOrOne(many, i);
    }

    public int zeros(int n, int i) throws NoSuchElementException {
        need(n >= 0 && n < PLACES);
        int many = 0;
        for (int y = 0; y < galois.size && many < found.length; y++) {
            if (galois.evaluate(places, n, y) == 0) {
                found[many] = y;
                many++;
            }
        }
        return manyOrOne(many, i);
    }

    public int within(int d, int i) throws NoSuchElementException {
        need(d >= 1 && d <= galois.r && Sure.remainder(galois.r, d) == 0);
        int many = 0;
        for (int y = 0; y < galois.size && many < found.length; y++) {
            if (galois.isWithin(y, d)) {
                found[many] = y;
                many++;
            }
        }
        return manyOrOne(many, i);
    }

    public int units(int n) throws NoSuchElementException {
        need(n >= 1 && n <= MOST_NUMBER);
        return galois.unitsOfPower(n);
    }

    public int many(int what, int v) throws NoSuchElementException {
        need(v >= 0);
        switch (what) {
            case 0:
                return galois.manyOfLevel(v);
            case 1:
                return v < galois.m ? Sure.quotient(galois.size, galois.m) : 0;
            case 2:
                return galois.manyOfNorm(v);
            case 3:
                return Sure.raise(galois.m, Sure.common(v, galois.r));
            default:
                throw new NoSuchElementException();
        }
    }

    public int classes(int n, int i, int k) throws NoSuchElementException {
        need(galois.hasRootsOfOne(n));
        partition.become(n, galois.p);
        if (i == NONE) {
            return partition.parts;
        }
        need(i >= 0 && i < partition.parts);
        if (k == NONE) {
            return partition.sizeOf(i);
        }
        need(k >= 0 && k < partition.sizeOf(i));
        return partition.member(i, k);
    }

    public int code(int n, int set) {
        if (!galois.hasRootsOfOne(n) || set < 0) {
            return NONE;
        }
        partition.become(n, galois.p);
        if (partition.parts <= MOST_CLASS && (set >> partition.parts) != 0) {
            return NONE;
        }
        choose(set);
        return cyclic.chosen;
    }

    public int coefficient(int which, int i) throws NoSuchElementException {
        need(which == 0 || which == 1);
        int degree = which == 0 ? cyclic.degree : cyclic.n - cyclic.degree;
        if (i == NONE) {
            return degree;
        }
        need(i >= 0 && i <= degree);
        return Sure.at(which == 0 ? cyclic.maker : cyclic.check, i);
    }

    public int weighing(boolean lee, int w) {
        if (cyclic.words == 0 || w < 0) {
            return NONE;
        }
        weights.weigh();
        return Sure.at(lee ? weights.lees : weights.plain, w);
    }

    public int lightest(boolean lee) {
        if (cyclic.words == 0) {
            return NONE;
        }
        weights.weigh();
        return Weights.least(lee ? weights.lees : weights.plain);
    }

    public int word() throws IllegalArgumentException {
        if (tape.length < cyclic.n) {
            throw new IllegalArgumentException();
        }
        tape.length = 0;
        if (!tape.isBelow(cyclic.n, galois.m)) {
            return NONE;
        }
        latest.take(tape.bytes);
        return latest.off ? 0 : 1;
    }

    public int number(int i) throws NoSuchElementException {
        need(latest.known && i >= 0 && i < cyclic.n);
        return Sure.at(latest.numbers, i);
    }

    public int rest(int i) throws NoSuchElementException {
        need(latest.known && i >= 0 && i < cyclic.degree);
        return Sure.at(latest.left, i);
    }

    public int mend(int what) throws NoSuchElementException {
        need(latest.known);
        switch (what) {
            case 0:
                return latest.ways;
            case 1:
                return latest.mendPlace;
            case 2:
                return latest.mendValue;
            default:
                throw new NoSuchElementException();
        }
    }

    public int nearest(int i) throws NoSuchElementException {
        need(latest.known && i >= NONE && i < cyclic.n);
        if (cyclic.words == 0) {
            return NONE;
        }
        latest.seek();
        return i == NONE ? latest.fewest : Sure.at(latest.closest, i);
    }

    public int say(int x) throws NoSuchElementException {
        need(galois.has(x));
        speech.write(galois, x);
        return speech.length;
    }

    public int said(int i) {
        return i >= 0 && i < speech.length ? Sure.at(speech.bytes, i) : NONE;
    }

    private static void need(boolean stands) throws NoSuchElementException {
        if (!stands) {
            throw new NoSuchElementException();
        }
    }

    private int manyOrOne(int many, int i) throws NoSuchElementException {
        if (i == NONE) {
            return many;
        }
        need(i >= 0 && i < many);
        return Sure.at(found, i);
    }

    private boolean canStand(int log, int i) {
        return log == NONE || i < galois.e && log >= 0 && log <= galois.q - 2;
    }

    /** All PLACES 0, and the CODE of n 1 and no CLASS. */
    private void clear() {
        Arrays.fill(places, 0);
        partition.become(1, galois.p);
        choose(0);
    }

    /** The CODE of a set of the CLASSES told latest. */
    private void choose(int set) {
        cyclic.become(partition, set);
        weights.known = false;
        latest.known = false;
    }

    private static int divisors(int r) {
        int many = 0;
        for (int d = 1; d <= r; d++) {
            many += Sure.remainder(r, d) == 0 ? 1 : 0;
        }
        return many;
    }

    /** Rows and whole numbers, without an index or a divisor that could fail. */
    private static final class Sure {
        static int at(int[] row, int i) {
            return i >= 0 && i < row.length ? row[i] : 0;
        }

        static void set(int[] row, int i, int value) {
            if (i >= 0 && i < row.length) {
                row[i] = value;
            }
        }

        static void add(int[] row, int i, int more) {
            if (i >= 0 && i < row.length) {
                row[i] += more;
            }
        }

        static int quotient(int a, int b) {
            return b > 0 ? a / b : 0;
        }

        static int remainder(int a, int b) {
            return b > 0 ? a % b : 0;
        }

        static int raise(int base, int n) {
            int made = 1;
            for (int i = 0; i < n; i++) {
                made *= base;
            }
            return made;
        }

        /** The greatest number that divides both (b 1 or more). */
        static int common(int a, int b) {
            for (int d = b; d > 1; d--) {
                if (a % d == 0 && b % d == 0) {
                    return d;
                }
            }
            return 1;
        }

        /** x and f times y together, digit by digit to that base, with no carry. */
        static int mix(int x, int y, int f, int base) {
            if (base < 2) {
                return 0;
            }
            int made = 0;
            int worth = 1;
            for (int a = x, b = y; a > 0 || b > 0; a /= base, b /= base) {
                made += worth * ((a % base + f * (b % base)) % base);
                worth *= base;
            }
            return made;
        }
    }

    /** Polynomials MOD p, told by their coefficients as digits to the base p. */
    private static final class Below {
        /** The least of t^r + .. that is no product of two of lesser degree. */
        static int leastPrime(int p, int r) {
            int first = Sure.raise(p, r);
            for (int f = first; f < 2 * first; f++) {
                if (isPrime(f, r, p)) {
                    return f;
                }
            }
            return first;
        }

        private static boolean isPrime(int f, int r, int p) {
            for (int degree = 1; 2 * degree <= r; degree++) {
                int first = Sure.raise(p, degree);
                for (int g = first; g < 2 * first; g++) {
                    if (leftBy(f, r, g, degree, p) == 0) {
                        return false;
                    }
                }
            }
            return true;
        }

        private static int leftBy(int f, int r, int g, int degree, int p) {
            int left = f;
            for (int shift = r - degree; shift >= 0; shift--) {
                int times = Sure.raise(p, shift);
                int top = Sure.quotient(left, Sure.raise(p, degree + shift));
                left = Sure.mix(left, g * times, p - top, p);
            }
            return left;
        }
    }

    /** The RING: its tables, and what is told of its ELEMENTS. */
    private static final class Galois {
        int p = 2;
        int e = 1;
        int r = 1;
        int m = 2;
        int q = 2;
        int size = 2;
        int generator = 1;
        /** MODULUS. */
        final int[] lifted = new int[MOST_R + 1];
        /** GENERATOR to the 0, 1, .. */
        final int[] powers = new int[MOST_Q];
        /** LOG of the ROOT that stands for what is below, by its number to the base p. */
        private final int[] logs = new int[MOST_Q];
        /** Row j: the coefficients of t^j MOVED. */
        private final int[][] images = new int[MOST_R][MOST_R];
        private final int[] left = new int[MOST_R];
        private final int[] right = new int[MOST_R];
        private final int[] product = new int[2 * MOST_R];
        private final int[] grown = new int[MOST_R + 1];

        /** False, and nothing changes, where there is no such RING. */
        boolean become(int newP, int newE, int newR) {
            if (!exists(newP, newE, newR)) {
                return false;
            }
            p = newP;
            e = newE;
            r = newR;
            m = Sure.raise(p, e);
            q = Sure.raise(p, r);
            size = Sure.raise(q, e);
            liftModulus();
            fillImages();
            findGenerator();
            fillLogs();
            return true;
        }

        private static boolean exists(int p, int e, int r) {
            boolean told = (p == 2 || p == 3 || p == 5 || p == 7)
                && e >= 1 && e <= MOST_E && r >= 1 && r <= MOST_R;
            int many = 1;
            for (int i = 0; told && i < e * r && many <= MOST_ELEMENTS; i++) {
                many *= p;
            }
            return told && many <= MOST_ELEMENTS;
        }

        /** In the ring by any modulus that is right below, the ROOT OF t is a zero of MODULUS. */
        private void liftModulus() {
            int below = Below.leastPrime(p, r);
            for (int i = 0; i <= r; i++) {
                Sure.set(lifted, i, Sure.remainder(below, p));
                below = Sure.quotient(below, p);
            }
            Arrays.fill(grown, 0);
            grown[0] = 1;
            int root = power(t(), toRoot());
            for (int i = 0; i < r; i++) {
                grow(grown, i, root);
                root = power(root, p);
            }
            for (int i = 0; i <= r; i++) {
                Sure.set(lifted, i, Sure.at(grown, i));
            }
        }

        /** t is a ROOT, so that MOVED takes it to its p-th POWER. */
        private void fillImages() {
            for (int j = 0; j < r && j < images.length; j++) {
                spread(power(t(), p * j), images[j]);
            }
        }

        private void findGenerator() {
            generator = 0;
            int toRoot = toRoot();
            for (int below = 1; below < q; below++) {
                int root = power(rebase(below, p, m), toRoot);
                if ((generator == 0 || root < generator) && makesAllRoots(root)) {
                    generator = root;
                }
            }
        }

        private boolean makesAllRoots(int root) {
            int reached = root;
            for (int n = 1; n < q - 1; n++) {
                if (reached == 1) {
                    return false;
                }
                reached = times(reached, root);
            }
            return true;
        }

        private void fillLogs() {
            Arrays.fill(logs, NONE);
            int reached = 1;
            for (int k = 0; k < q - 1; k++) {
                Sure.set(powers, k, reached);
                Sure.set(logs, rebase(reached, m, p), k);
                reached = times(reached, generator);
            }
        }

        private int toRoot() {
            return Sure.raise(q, e - 1);
        }

        int t() {
            return r == 1 ? 0 : m;
        }

        boolean has(int x) {
            return x >= 0 && x < size;
        }

        boolean hasRootsOfOne(int n) {
            return n >= 1 && n <= MOST_N && Sure.remainder(q - 1, n) == 0;
        }

        int plus(int x, int y) {
            return Sure.mix(x, y, 1, m);
        }

        int minus(int x, int y) {
            return Sure.mix(x, y, m - 1, m);
        }

        int times(int x, int y) {
            spread(x, left);
            spread(y, right);
            Arrays.fill(product, 0);
            for (int i = 0; i < MOST_R; i++) {
                for (int j = 0; j < MOST_R; j++) {
                    product[i + j] += left[i] * right[j];
                }
            }
            for (int k = 2 * r - 2; k >= r; k--) {
                int top = Sure.remainder(Sure.at(product, k), m);
                for (int i = 0; i < r; i++) {
                    Sure.add(product, k - r + i, top * (m - Sure.at(lifted, i)));
                }
            }
            return gather(product);
        }

        int power(int x, int n) {
            int made = 1;
            int square = x;
            for (int left = n; left > 0; left >>= 1) {
                if ((left & 1) == 1) {
                    made = times(made, square);
                }
                square = left > 1 ? times(square, square) : square;
            }
            return made;
        }

        /** A polynomial of that degree, whose coefficients are ELEMENTS, times X less a root. */
        void grow(int[] row, int degree, int root) {
            for (int i = degree + 1; i >= 0; i--) {
                int lower = Sure.at(row, i - 1);
                Sure.set(row, i, minus(lower, times(root, Sure.at(row, i))));
            }
        }

        int evaluate(int[] row, int degree, int y) {
            int value = 0;
            for (int i = degree; i >= 0; i--) {
                value = plus(times(value, y), Sure.at(row, i));
            }
            return value;
        }

        void spread(int x, int[] row) {
            if (m < 2) {
                return;
            }
            int left = x;
            for (int i = 0; i < row.length; i++) {
                row[i] = left % m;
                left /= m;
            }
        }

        private int gather(int[] row) {
            if (m < 2) {
                return 0;
            }
            int x = 0;
            for (int i = Math.min(r, row.length) - 1; i >= 0; i--) {
                x = x * m + row[i] % m;
            }
            return x;
        }

        /** The digits MOD p to one base, as digits to another. */
        private int rebase(int x, int from, int to) {
            int made = 0;
            int worth = 1;
            int left = x;
            for (int i = 0; i < r; i++) {
                made += worth * Sure.remainder(Sure.remainder(left, from), p);
                left = Sure.quotient(left, from);
                worth *= to;
            }
            return made;
        }

        /** Each coefficient by p: what is p times it, where p divides all of them. */
        private int byP(int x) {
            int made = 0;
            int worth = 1;
            int left = x;
            for (int i = 0; i < r; i++) {
                made += worth * Sure.quotient(Sure.remainder(left, m), p);
                left = Sure.quotient(left, m);
                worth *= m;
            }
            return made;
        }

        /** LOG of the ROOT OF x. */
        int rootLog(int x) {
            return Sure.at(logs, rebase(x, m, p));
        }

        int rootOf(int x) {
            int log = rootLog(x);
            return log == NONE ? 0 : Sure.at(powers, log);
        }

        boolean isUnit(int x) {
            return rootLog(x) != NONE;
        }

        /** That is so of the ROOTS, if it is so of y and x. */
        boolean mayReach(int y, int n, int x) {
            int log = rootLog(y);
            return rootLog(x) == (log == NONE ? NONE : Sure.remainder(log * n, q - 1));
        }

        int digitLog(int x, int i) {
            int left = x;
            for (int j = 0; j < i; j++) {
                left = byP(minus(left, rootOf(left)));
            }
            return rootLog(left);
        }

        int withDigit(int x, int i, int log) {
            if (log == NONE) {
                return x;
            }
            return Sure.mix(x, Sure.at(powers, log), Sure.raise(p, i), m);
        }

        int level(int x) {
            int left = x;
            for (int i = 0; i < e; i++) {
                if (isUnit(left)) {
                    return i;
                }
                left = byP(left);
            }
            return e;
        }

        int moved(int x) {
            spread(x, left);
            Arrays.fill(product, 0);
            for (int j = 0; j < MOST_R; j++) {
                for (int i = 0; i < MOST_R; i++) {
                    product[i] += left[j] * images[j][i];
                }
            }
            return gather(product);
        }

        int trace(int x) {
            int total = 0;
            int y = x;
            for (int i = 0; i < r; i++) {
                total = plus(total, y);
                y = moved(y);
            }
            return total;
        }

        int norm(int x) {
            int total = 1;
            int y = x;
            for (int i = 0; i < r; i++) {
                total = times(total, y);
                y = moved(y);
            }
            return total;
        }

        boolean isWithin(int x, int d) {
            int y = x;
            for (int i = 0; i < d; i++) {
                y = moved(y);
            }
            return y == x;
        }

        int leastWithin(int x) {
            for (int d = 1; d < r; d++) {
                if (Sure.remainder(r, d) == 0 && isWithin(x, d)) {
                    return d;
                }
            }
            return r;
        }

        int oneBelow(int x) {
            return times(x, inverse(rootOf(x)));
        }

        /** (Q - 1) p^(e - 1) takes each UNIT to 1. */
        int inverse(int x) {
            return power(x, (q - 1) * Sure.raise(p, e - 1) - 1);
        }

        int order(int x) {
            int ofRoot = Sure.quotient(q - 1, Sure.common(rootLog(x), q - 1));
            return ofRoot * orderOneBelow(oneBelow(x));
        }

        /** Of what is 1 below: a power of p, at most p^(e - 1). */
        private int orderOneBelow(int x) {
            int order = 1;
            int reached = x;
            for (int i = 1; i < e && reached != 1; i++) {
                reached = power(reached, p);
                order *= p;
            }
            return order;
        }

        int commonOrder() {
            int most = 1;
            for (int x = 0; x < size; x++) {
                if (rootLog(x) == 0) {
                    most = Math.max(most, orderOneBelow(x));
                }
            }
            return (q - 1) * most;
        }

        /** The ROOTS and what is 1 below may be chosen apart. */
        int unitsOfPower(int n) {
            int many = 0;
            for (int x = 0; x < size; x++) {
                if (rootLog(x) == 0 && power(x, n) == 1) {
                    many++;
                }
            }
            return many * Sure.common(n, q - 1);
        }

        int manyOfLevel(int v) {
            if (v >= e) {
                return v == e ? 1 : 0;
            }
            return Sure.raise(q, e - v) - Sure.raise(q, e - v - 1);
        }

        int manyOfNorm(int v) {
            int many = 0;
            for (int x = 0; x < size; x++) {
                if (norm(x) == v) {
                    many++;
                }
            }
            return many;
        }
    }

    private static final class Tape {
        int length = 0;
        final int[] bytes = new int[MOST_BYTES];

        void append(int four) {
            for (int shift = 24; shift >= 0; shift -= 8) {
                Sure.set(bytes, length, four >> shift & 255);
                length++;
            }
        }

        boolean isBelow(int n, int bound) {
            for (int i = 0; i < n; i++) {
                if (Sure.at(bytes, i) >= bound) {
                    return false;
                }
            }
            return true;
        }
    }

    /** Reads an EXPR and works it out on the way; what comes of it counts only without a FAULT. */
    private static final class Reader {
        private static final int FIGURES = 256;
        private static final int END = 257;

        /** The latest FAULT (0: none), and its place. */
        int wrong = 0;
        int wrongPlace = NONE;
        boolean refused = false;
        private final Galois galois;
        private final int[] places;
        private final Tape tape;
        private int end = 0;
        /** The TOKEN that comes: its sign, first byte, worth as a NUMBER, and the byte behind it. */
        private int sign = END;
        private int first = 0;
        private int worth = 0;
        private int behind = 0;

        Reader(Galois galois, int[] places, Tape tape) {
            this.galois = galois;
            this.places = places;
            this.tape = tape;
        }

        int read(int n) {
            wrong = 0;
            wrongPlace = NONE;
            refused = false;
            end = n;
            behind = 0;
            next();
            int value = terms(0);
            if (sign != END) {
                fail(1);
            }
            return value;
        }

        private void fail(int which) {
            if (wrong == 0) {
                wrong = which;
                wrongPlace = first;
            }
        }

        private int byteAt(int i) {
            return i < end ? Sure.at(tape.bytes, i) : END;
        }

        private void next() {
            first = behind;
            while (first < end && (byteAt(first) == 32 || byteAt(first) == 10)) {
                first++;
            }
            sign = byteAt(first);
            behind = first + 1;
            if (isFigure(sign)) {
                takeFigures();
            }
        }

        private static boolean isFigure(int sign) {
            return sign >= '0' && sign <= '9';
        }

        private void takeFigures() {
            sign = FIGURES;
            worth = 0;
            behind = first;
            while (behind < end && isFigure(byteAt(behind))) {
                // one that is too great stays so, whatever comes behind
                worth = Math.min(worth * 10 + byteAt(behind) - '0', MOST_NUMBER + 1);
                behind++;
            }
        }

        private int terms(int open) {
            int value = factors(open);
            for (int i = 0; i < end && wrong == 0 && (sign == '+' || sign == '-'); i++) {
                boolean less = sign == '-';
                next();
                int other = factors(open);
                value = less ? galois.minus(value, other) : galois.plus(value, other);
            }
            return value;
        }

        private int factors(int open) {
            int value = factor(open);
            for (int i = 0; i < end && wrong == 0 && sign == '*'; i++) {
                next();
                value = galois.times(value, factor(open));
            }
            return value;
        }

        private int factor(int open) {
            int value = atom(open);
            if (wrong == 0 && sign == '^') {
                next();
                value = galois.power(value, figures(MOST_NUMBER));
            }
            return value;
        }

        private int figures(int most) {
            if (sign != FIGURES) {
                fail(1);
                return 0;
            }
            if (worth > most) {
                fail(2);
                return 0;
            }
            int value = worth;
            next();
            return value;
        }

        private int atom(int open) {
            switch (sign) {
                case FIGURES:
                    return Sure.remainder(figures(MOST_NUMBER), galois.m);
                case 't':
                    next();
                    return galois.t();
                case 'g':
                    next();
                    return galois.generator;
                case 'p':
                    next();
                    return Sure.remainder(galois.p, galois.m);
                case '#':
                    next();
                    return Sure.at(places, figures(PLACES - 1));
                case '(':
                case '-':
                case 'm':
                case 'r':
                case 'i':
                    return opened(open);
                default:
                    fail(1);
                    return 0;
            }
        }

        private int opened(int open) {
            if (open >= MOST_OPEN) {
                fail(3);
                return 0;
            }
            int by = sign;
            next();
            if (by == '(') {
                int value = terms(open + 1);
                if (wrong == 0 && sign != ')') {
                    fail(1);
                }
                if (wrong == 0) {
                    next();
                }
                return value;
            }
            return changed(by, atom(open + 1));
        }

        private int changed(int by, int value) {
            if (by == '-') {
                return galois.minus(0, value);
            }
            if (by == 'm') {
                return galois.moved(value);
            }
            if (by == 'r') {
                return galois.rootOf(value);
            }
            if (!galois.isUnit(value)) {
                refused = true;
                return 0;
            }
            return galois.inverse(value);
        }
    }

    /** What was SAID. */
    private static final class Speech {
        int length = 0;
        final int[] bytes = new int[MOST_BYTES];
        private final int[] coefficients = new int[MOST_R];

        void write(Galois galois, int x) {
            length = 0;
            galois.spread(x, coefficients);
            for (int i = MOST_R - 1; i >= 0; i--) {
                if (coefficients[i] > 0) {
                    part(coefficients[i], i);
                }
            }
            if (length == 0) {
                append('0');
            }
        }

        private void part(int number, int exponent) {
            if (length > 0) {
                append('+');
            }
            if (number > 1 || exponent == 0) {
                figures(number);
            }
            if (number > 1 && exponent > 0) {
                append('*');
            }
            if (exponent > 0) {
                append('t');
            }
            if (exponent > 1) {
                append('^');
                figures(exponent);
            }
        }

        private void figures(int number) {
            for (int worth = 1000; worth > 0; worth /= 10) {
                if (number >= worth) {
                    append('0' + number / worth % 10);
                }
            }
        }

        private void append(int sign) {
            Sure.set(bytes, length, sign);
            length++;
        }
    }

    /** CLASSES. */
    private static final class Partition {
        int n = 1;
        int parts = 1;
        private final int[] partOf = new int[MOST_N];

        void become(int newN, int p) {
            n = newN;
            parts = 0;
            Arrays.fill(partOf, NONE);
            for (int least = 0; least < n; least++) {
                if (part(least) == NONE) {
                    join(least, p);
                    parts++;
                }
            }
        }

        private void join(int least, int p) {
            int reached = least;
            for (int i = 0; i < n; i++) {
                Sure.set(partOf, reached, parts);
                reached = Sure.remainder(reached * p, n);
            }
        }

        int part(int number) {
            return Sure.at(partOf, number);
        }

        int sizeOf(int part) {
            int many = 0;
            for (int number = 0; number < n; number++) {
                many += part(number) == part ? 1 : 0;
            }
            return many;
        }

        int member(int part, int k) {
            int before = 0;
            for (int number = 0; number < n; number++) {
                if (part(number) == part) {
                    if (before == k) {
                        return number;
                    }
                    before++;
                }
            }
            return NONE;
        }
    }

    /** The CODE. */
    private static final class CyclicCode {
        final Galois galois;
        int n = 1;
        /** MAKER's degree. */
        int degree = 0;
        /** SIZE: how many numbers may be chosen. */
        int chosen = 1;
        /** How many WORDS it has, if it is SMALL; else 0. */
        int words = 2;
        final int[] maker = new int[MOST_N + 1];
        final int[] check = new int[MOST_N + 1];

        CyclicCode(Galois galois) {
            this.galois = galois;
        }

        void become(Partition partition, int set) {
            n = partition.n;
            degree = 0;
            Arrays.fill(maker, 0);
            Arrays.fill(check, 0);
            maker[0] = 1;
            check[0] = 1;
            int step = Sure.quotient(galois.q - 1, n);
            for (int i = 0; i < n; i++) {
                int root = Sure.at(galois.powers, i * step);
                int part = partition.part(i);
                if (part <= MOST_CLASS && (set >> part & 1) == 1) {
                    galois.grow(maker, degree, root);
                    degree++;
                } else {
                    galois.grow(check, i - degree, root);
                }
            }
            chosen = n - degree;
            words = smallWords();
        }

        private int smallWords() {
            int many = 1;
            for (int i = 0; i < chosen && many <= MOST_WORDS; i++) {
                many *= galois.m;
            }
            return many <= MOST_WORDS ? many : 0;
        }
    }

    /** Goes through all WORDS of a SMALL CODE, the one of zeros first. */
    private static final class Walk {
        final int[] numbers = new int[MOST_N];
        private final int[] factors = new int[MOST_N];
        private final CyclicCode cyclic;

        Walk(CyclicCode cyclic) {
            this.cyclic = cyclic;
        }

        void start() {
            Arrays.fill(numbers, 0);
            Arrays.fill(factors, 0);
        }

        /** MAKER times X^j, M times together, is 0: a factor that is through needs no taking back. */
        void step() {
            for (int j = 0; j < cyclic.chosen && j < factors.length; j++) {
                addMaker(j);
                factors[j]++;
                if (factors[j] < cyclic.galois.m) {
                    return;
                }
                factors[j] = 0;
            }
        }

        private void addMaker(int shift) {
            int m = cyclic.galois.m;
            for (int i = 0; i <= cyclic.degree && shift + i < numbers.length; i++) {
                int made = numbers[shift + i] + Sure.at(cyclic.maker, i);
                numbers[shift + i] = made < m ? made : made - m;
            }
        }
    }

    /** How many WORDS of a SMALL CODE have each WEIGHT, each LEE weight. */
    private static final class Weights {
        boolean known = false;
        final int[] plain = new int[MOST_N + 1];
        final int[] lees = new int[MOST_LEE + 1];
        private final CyclicCode cyclic;
        private final Walk walk;

        Weights(CyclicCode cyclic) {
            this.cyclic = cyclic;
            walk = new Walk(cyclic);
        }

        void weigh() {
            if (known) {
                return;
            }
            Arrays.fill(plain, 0);
            Arrays.fill(lees, 0);
            walk.start();
            for (int i = 0; i < cyclic.words; i++) {
                weighOne(walk.numbers);
                walk.step();
            }
            known = true;
        }

        private void weighOne(int[] numbers) {
            int m = cyclic.galois.m;
            int weight = 0;
            int lee = 0;
            for (int i = 0; i < numbers.length; i++) {
                int c = numbers[i];
                if (c > 0) {
                    weight++;
                    lee += c < m - c ? c : m - c;
                }
            }
            Sure.add(plain, weight, 1);
            Sure.add(lees, lee, 1);
        }

        static int least(int[] counts) {
            for (int w = 1; w < counts.length; w++) {
                if (counts[w] > 0) {
                    return w;
                }
            }
            return NONE;
        }
    }

    /** The latest WORD. */
    private static final class Latest {
        boolean known = false;
        boolean off = false;
        final int[] numbers = new int[MOST_N];
        /** REST. */
        final int[] left = new int[MOST_N];
        int ways = 0;
        int mendPlace = NONE;
        int mendValue = NONE;
        int fewest = 0;
        final int[] closest = new int[MOST_N];
        private boolean sought = false;
        /** What is left of X^i by MAKER. */
        private final int[] shifted = new int[MOST_N];
        private final CyclicCode cyclic;
        private final Walk walk;

        Latest(CyclicCode cyclic) {
            this.cyclic = cyclic;
            walk = new Walk(cyclic);
        }

        void take(int[] bytes) {
            for (int i = 0; i < MOST_N; i++) {
                numbers[i] = i < cyclic.n ? Sure.at(bytes, i) : 0;
                left[i] = numbers[i];
            }
            for (int i = cyclic.n - 1; i >= cyclic.degree; i--) {
                lessMaker(left, i);
            }
            off = false;
            for (int i = 0; i < cyclic.degree; i++) {
                off = off || Sure.at(left, i) != 0;
            }
            countMends();
            sought = false;
            known = true;
        }

        /** Takes what stands at the top away by MAKER. */
        private void lessMaker(int[] row, int top) {
            int m = cyclic.galois.m;
            int times = m - Sure.at(row, top);
            for (int i = 0; i <= cyclic.degree; i++) {
                int at = top - cyclic.degree + i;
                Sure.set(row, at, Sure.remainder(Sure.at(row, at) + times * Sure.at(cyclic.maker, i), m));
            }
        }

        private void countMends() {
            ways = 0;
            mendPlace = NONE;
            mendValue = NONE;
            Arrays.fill(shifted, 0);
            shifted[0] = 1;
            for (int i = 0; off && i < cyclic.n; i++) {
                for (int v = 1; v < cyclic.galois.m; v++) {
                    if (isMendedBy(v)) {
                        mendPlace = ways == 0 ? i : mendPlace;
                        mendValue = ways == 0 ? v : mendValue;
                        ways++;
                    }
                }
                shift();
            }
        }

        private boolean isMendedBy(int v) {
            int m = cyclic.galois.m;
            for (int i = 0; i < cyclic.degree; i++) {
                if (Sure.remainder(Sure.at(left, i) + v * Sure.at(shifted, i), m) != 0) {
                    return false;
                }
            }
            return true;
        }

        private void shift() {
            int m = cyclic.galois.m;
            int times = m - Sure.at(shifted, cyclic.degree - 1);
            for (int i = cyclic.degree - 1; i >= 0; i--) {
                int lower = Sure.at(shifted, i - 1);
                Sure.set(shifted, i, Sure.remainder(lower + times * Sure.at(cyclic.maker, i), m));
            }
        }

        void seek() {
            if (sought) {
                return;
            }
            fewest = MOST_N + 1;
            walk.start();
            for (int i = 0; i < cyclic.words; i++) {
                int places = placesOff(walk.numbers);
                if (places < fewest || places == fewest && isAhead(walk.numbers)) {
                    fewest = places;
                    System.arraycopy(walk.numbers, 0, closest, 0, MOST_N);
                }
                walk.step();
            }
            sought = true;
        }

        private int placesOff(int[] row) {
            int places = 0;
            for (int i = 0; i < MOST_N && i < row.length; i++) {
                places += row[i] == numbers[i] ? 0 : 1;
            }
            return places;
        }

        private boolean isAhead(int[] row) {
            for (int i = 0; i < MOST_N && i < row.length; i++) {
                if (row[i] != closest[i]) {
                    return row[i] < closest[i];
                }
            }
            return false;
        }
    }
}
