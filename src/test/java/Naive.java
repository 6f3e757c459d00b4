import java.util.ArrayList;
import java.util.Arrays;
import java.util.HashMap;
import java.util.HashSet;
import java.util.List;
import java.util.Map;
import java.util.NoSuchElementException;
import java.util.Set;
import java.util.TreeMap;
import java.util.TreeSet;

/**
 * The document told again as plainly as it stands, by search through all that there is: slow, but made in
 * other ways than the class that it is held against.
 */
final class Naive {
    static final int NONE = -1;

    /** What is told of a RING alone: found once for each. */
    static final class Told {
        final int p;
        final int e;
        final int r;
        final int m;
        final int q;
        final int size;
        int[] modulus;
        final List<Integer> roots = new ArrayList<>();
        int generator;
        final Map<Integer, Integer> logs = new HashMap<>();
        final int[] byLog;
        int[][] digits;
        int[] moved;
        int[] order;
        int[] inverse;

        Told(int p, int e, int r) {
            this.p = p;
            this.e = e;
            this.r = r;
            m = (int) Math.pow(p, e);
            q = (int) Math.pow(p, r);
            size = (int) Math.pow(p, e * r);
            modulus = findModulus();
            for (int x = 0; x < size; x++) {
                if (power(x, q) == x) {
                    roots.add(x);
                }
            }
            if (roots.size() != q) {
                throw new AssertionError("not Q ROOTS");
            }
            byLog = new int[q - 1];
            findGenerator();
            findDigits();
            findOrders();
        }

        int[] spread(int x) {
            int[] row = new int[r];
            for (int i = 0; i < r; i++) {
                row[i] = x % m;
                x /= m;
            }
            return row;
        }

        int gather(int[] row) {
            int x = 0;
            for (int i = r - 1; i >= 0; i--) {
                x = x * m + Math.floorMod(row[i], m);
            }
            return x;
        }

        int plus(int x, int y) {
            int[] a = spread(x);
            int[] b = spread(y);
            for (int i = 0; i < r; i++) {
                a[i] += b[i];
            }
            return gather(a);
        }

        int minus(int x, int y) {
            int[] a = spread(x);
            int[] b = spread(y);
            for (int i = 0; i < r; i++) {
                a[i] -= b[i];
            }
            return gather(a);
        }

        int times(int x, int y) {
            int[] all = product(spread(x), spread(y));
            return gather(Arrays.copyOf(left(all, modulus, m), r));
        }

        int manyTimes(long k, int x) {
            return times((int) Math.floorMod(k, (long) m), x);
        }

        int power(int x, int n) {
            int made = 1;
            for (int bit = 31 - Integer.numberOfLeadingZeros(n); bit >= 0; bit--) {
                made = times(made, made);
                if ((n >> bit & 1) == 1) {
                    made = times(made, x);
                }
            }
            return made;
        }

        private int[] findModulus() {
            if (r == 1) {
                return new int[] {0, 1};
            }
            Set<List<Integer>> products = new HashSet<>();
            for (int degree = 1; degree < r; degree++) {
                for (int[] f : monic(degree, p)) {
                    for (int[] g : monic(r - degree, p)) {
                        products.add(list(product(f, g), p));
                    }
                }
            }
            TreeMap<Integer, int[]> fit = new TreeMap<>();
            for (int[] f : monic(r, m)) {
                if (!products.contains(list(f, p)) && dividesUnity(f)) {
                    int number = 0;
                    for (int i = r - 1; i >= 0; i--) {
                        number = number * p + f[i] % p;
                    }
                    if (fit.put(number, f) != null) {
                        throw new AssertionError("two of one number");
                    }
                }
            }
            return fit.firstEntry().getValue();
        }

        private boolean dividesUnity(int[] f) {
            int[] reached = new int[r + 1];
            reached[0] = 1;
            for (int i = 0; i < q - 1; i++) {
                for (int j = r; j > 0; j--) {
                    reached[j] = reached[j - 1];
                }
                reached[0] = 0;
                int top = reached[r];
                for (int j = 0; j <= r; j++) {
                    reached[j] = Math.floorMod(reached[j] - top * f[j], m);
                }
            }
            for (int j = 0; j < r; j++) {
                if (reached[j] != (j == 0 ? 1 : 0)) {
                    return false;
                }
            }
            return true;
        }

        private void findGenerator() {
            generator = NONE;
            for (int root : roots) {
                Set<Integer> reached = new TreeSet<>();
                int x = 1;
                do {
                    reached.add(x);
                    x = times(x, root);
                } while (reached.size() < q && !reached.contains(x));
                reached.remove(0);
                if (root != 0 && reached.size() == q - 1) {
                    generator = root;
                    break;
                }
            }
            int x = 1;
            for (int n = 0; n < q - 1; n++) {
                byLog[n] = x;
                logs.put(x, n);
                x = times(x, generator);
            }
        }

        /** All rows of ROOTS, each of which makes another ELEMENT. */
        private void findDigits() {
            digits = new int[size][];
            moved = new int[size];
            int[] at = new int[e];
            for (int i = 0; i < size; i++) {
                int left = i;
                int x = 0;
                int y = 0;
                int worth = 1;
                int[] row = new int[e];
                for (int j = 0; j < e; j++) {
                    row[j] = roots.get(left % q);
                    left /= q;
                    x = plus(x, manyTimes(worth, row[j]));
                    y = plus(y, manyTimes(worth, power(row[j], p)));
                    worth *= p;
                }
                if (digits[x] != null) {
                    throw new AssertionError("told in two ways");
                }
                digits[x] = row;
                moved[x] = y;
            }
        }

        private void findOrders() {
            order = new int[size];
            inverse = new int[size];
            Arrays.fill(order, NONE);
            Arrays.fill(inverse, NONE);
            boolean[] seen = new boolean[size];
            for (int x = 0; x < size; x++) {
                if (seen[x]) {
                    continue;
                }
                List<Integer> walk = new ArrayList<>();
                Set<Integer> been = new HashSet<>();
                int y = x;
                while (been.add(y)) {
                    walk.add(y);
                    y = times(y, x);
                }
                int n = walk.indexOf(1) + 1;
                seen[x] = true;
                for (int k = 1; n > 0 && k <= n; k++) {
                    int z = walk.get(k - 1);
                    seen[z] = true;
                    inverse[z] = k == n ? 1 : walk.get(n - k - 1);
                    int o = 1;
                    while (o * k % n != 0) {
                        o++;
                    }
                    order[z] = o;
                }
            }
        }

        int conjugate(int x, int times) {
            for (int i = 0; i < times; i++) {
                x = moved[x];
            }
            return x;
        }

        int trace(int x) {
            int total = 0;
            for (int i = 0; i < r; i++) {
                total = plus(total, conjugate(x, i));
            }
            return total;
        }

        int norm(int x) {
            int total = 1;
            for (int i = 0; i < r; i++) {
                total = times(total, conjugate(x, i));
            }
            return total;
        }

        int level(int x) {
            int level = 0;
            for (int i = 1; i <= e; i++) {
                int worth = (int) Math.pow(p, i);
                boolean all = true;
                for (int c : spread(x)) {
                    all &= c % worth == 0;
                }
                level = all ? i : level;
            }
            return level;
        }

        int rootOf(int x) {
            return power(x, (int) Math.pow(q, e - 1));
        }
    }

    private static final Map<Integer, Told> ALL = new HashMap<>();

    Told told = ring0(2, 1, 1);
    int[] places = new int[8];
    List<Integer> tape = new ArrayList<>();
    int faultPlace = NONE;
    String spoken = "";
    int n = 1;
    Set<Integer> exponents = new TreeSet<>();
    int[] maker;
    int[] check;
    int[] word = null;
    List<int[]> words = null;

    Naive() {
        newCode(1, 0);
    }

    private static int[] product(int[] f, int[] g) {
        int[] made = new int[f.length + g.length - 1];
        for (int i = 0; i < f.length; i++) {
            for (int j = 0; j < g.length; j++) {
                made[i + j] += f[i] * g[j];
            }
        }
        return made;
    }

    /** What is left of f by g, whose highest coefficient is 1. */
    private static int[] left(int[] f, int[] g, int m) {
        int[] row = Arrays.copyOf(f, Math.max(f.length, g.length));
        for (int i = row.length - 1; i >= g.length - 1; i--) {
            int top = Math.floorMod(row[i], m);
            for (int j = 0; j < g.length; j++) {
                int at = i - (g.length - 1) + j;
                row[at] = Math.floorMod(row[at] - top * g[j], m);
            }
        }
        for (int i = 0; i < row.length; i++) {
            row[i] = Math.floorMod(row[i], m);
        }
        return Arrays.copyOf(row, g.length - 1);
    }

    private static List<int[]> monic(int degree, int base) {
        List<int[]> all = new ArrayList<>();
        int many = (int) Math.pow(base, degree);
        for (int i = 0; i < many; i++) {
            int[] f = new int[degree + 1];
            int left = i;
            for (int j = 0; j < degree; j++) {
                f[j] = left % base;
                left /= base;
            }
            f[degree] = 1;
            all.add(f);
        }
        return all;
    }

    private static List<Integer> list(int[] f, int base) {
        List<Integer> made = new ArrayList<>();
        for (int c : f) {
            made.add(Math.floorMod(c, base));
        }
        return made;
    }

    private static Told ring0(int p, int e, int r) {
        return ALL.computeIfAbsent(p * 100 + e * 10 + r, key -> new Told(p, e, r));
    }

    static boolean exists(int p, int e, int r) {
        return (p == 2 || p == 3 || p == 5 || p == 7) && e >= 1 && e <= 4 && r >= 1 && r <= 6
            && Math.pow(p, e * r) <= 4096;
    }

    private static void need(boolean stands) {
        if (!stands) {
            throw new NoSuchElementException();
        }
    }

    private boolean has(int x) {
        return 0 <= x && x < told.size;
    }

    int ring(int p, int e, int r) {
        if (!exists(p, e, r)) {
            return NONE;
        }
        told = ring0(p, e, r);
        places = new int[8];
        newCode(1, 0);
        return told.size;
    }

    int feed(int... five) {
        if (tape.size() > 180) {
            return NONE;
        }
        for (int number : five) {
            for (int i = 0; i < 4; i++) {
                tape.add(number >>> 24 - 8 * i & 255);
            }
        }
        return tape.size();
    }

    int tell(int place, int length) {
        if (place < 0 || place > 7 || length < 0 || length > tape.size()) {
            throw new IllegalArgumentException();
        }
        NaiveText text = new NaiveText(this, tape.subList(0, length));
        text.run();
        tape = new ArrayList<>();
        faultPlace = text.faultPlace;
        if (text.fault > 0) {
            return -10 - text.fault;
        }
        if (text.refused) {
            return -2;
        }
        places[place] = text.value;
        return text.value;
    }

    int fault() {
        return faultPlace;
    }

    int put(int place, int x) {
        need(0 <= place && place <= 7 && has(x));
        int before = places[place];
        places[place] = x;
        return before;
    }

    int count(int what) {
        int[] all = {told.p, told.e, told.r, told.m, told.q, told.size, 0, told.generator, n,
            n - (maker.length - 1), tape.size(), 0, 1};
        need(what >= 0 && what < all.length);
        for (int x = 0; x < told.size; x++) {
            if (told.order[x] != NONE) {
                all[6]++;
                while (all[12] % told.order[x] != 0) {
                    all[12]++;
                }
            }
        }
        for (int d = 1; d <= told.r; d++) {
            all[11] += told.r % d == 0 ? 1 : 0;
        }
        return all[what];
    }

    int modulus(int i) {
        need(i >= 0 && i <= told.r);
        return told.modulus[i];
    }

    int element(int how, int x, int y) {
        need(has(x) && has(y) && how >= 0 && how <= 3 && (how < 3 || told.order[y] != NONE));
        if (how == 0) {
            return told.plus(x, y);
        }
        if (how == 1) {
            return told.minus(x, y);
        }
        return told.times(x, how == 2 ? y : told.inverse[y]);
    }

    int of(int x, int what) {
        need(has(x) && what >= 0 && what <= 8);
        if (what >= 6 && told.order[x] == NONE) {
            return NONE;
        }
        switch (what) {
            case 0:
                return told.level(x);
            case 1:
                return told.rootOf(x);
            case 2:
                return told.moved[x];
            case 3:
                return told.trace(x);
            case 4:
                return told.norm(x);
            case 5:
                for (int d = 1;; d++) {
                    if (told.r % d == 0 && told.conjugate(x, d) == x) {
                        return d;
                    }
                }
            case 6:
                return told.times(x, told.inverse[told.rootOf(x)]);
            case 7:
                return told.order[x];
            default:
                return told.inverse[x];
        }
    }

    int digit(int x, int i) {
        need(has(x) && i >= 0 && i < told.e);
        return told.logs.getOrDefault(told.digits[x][i], NONE);
    }

    int whole(int... logs) {
        int x = 0;
        for (int i = 0; i < 4; i++) {
            need(logs[i] >= NONE && logs[i] <= told.q - 2 && (i < told.e || logs[i] == NONE));
            if (logs[i] != NONE) {
                x = told.plus(x, told.manyTimes((int) Math.pow(told.p, i), told.byLog[logs[i]]));
            }
        }
        return x;
    }

    int sum(int k, int i) {
        need(k >= 0 && k <= told.q - 2 && i >= 0 && i < told.e);
        return digit(told.plus(1, told.byLog[k]), i);
    }

    private static int pick(List<Integer> all, int i) {
        if (i == NONE) {
            return all.size();
        }
        need(i >= 0 && i < all.size());
        return all.get(i);
    }

    int roots(int x, int power, int i) {
        need(has(x) && power >= 1 && power <= 30);
        List<Integer> all = new ArrayList<>();
        for (int y = 0; y < told.size; y++) {
            if (told.power(y, power) == x) {
                all.add(y);
            }
        }
        return pick(all, i);
    }

    int zeros(int degree, int i) {
        need(degree >= 0 && degree <= 7);
        List<Integer> all = new ArrayList<>();
        for (int y = 0; y < told.size; y++) {
            int total = 0;
            int power = 1;
            for (int j = 0; j <= degree; j++) {
                total = told.plus(total, told.times(places[j], power));
                power = told.times(power, y);
            }
            if (total == 0) {
                all.add(y);
            }
        }
        return pick(all, i);
    }

    int within(int d, int i) {
        need(d >= 1 && d <= told.r && told.r % d == 0);
        List<Integer> all = new ArrayList<>();
        for (int y = 0; y < told.size; y++) {
            if (told.conjugate(y, d) == y) {
                all.add(y);
            }
        }
        return pick(all, i);
    }

    int units(int power) {
        need(power >= 1 && power <= 9999);
        int many = 0;
        for (int order : told.order) {
            many += order != NONE && power % order == 0 ? 1 : 0;
        }
        return many;
    }

    int many(int what, int v) {
        need(what >= 0 && what <= 3 && v >= 0);
        int many = 0;
        for (int x = 0; x < told.size; x++) {
            boolean is = what == 0 ? told.level(x) == v : what == 1 ? told.trace(x) == v
                : what == 2 ? told.norm(x) == v : told.conjugate(x, v % (2 * told.r)) == x;
            many += is ? 1 : 0;
        }
        return many;
    }

    private List<TreeSet<Integer>> partition(int length) {
        List<TreeSet<Integer>> all = new ArrayList<>();
        for (int i = 0; i < length; i++) {
            TreeSet<Integer> one = new TreeSet<>();
            for (int j = i; one.add(j); j = j * told.p % length) {
                continue;
            }
            if (one.first() == i) {
                all.add(one);
            }
        }
        return all;
    }

    private boolean isLength(int length) {
        return length >= 1 && length <= 63 && (told.q - 1) % length == 0;
    }

    int classes(int length, int i, int k) {
        need(isLength(length));
        List<TreeSet<Integer>> all = partition(length);
        if (i == NONE) {
            return all.size();
        }
        need(i >= 0 && i < all.size());
        return pick(new ArrayList<>(all.get(i)), k);
    }

    int code(int length, int set) {
        if (!isLength(length) || set < 0) {
            return NONE;
        }
        int many = partition(length).size();
        for (int bit = 0; bit < 31; bit++) {
            if ((set >>> bit & 1) == 1 && bit >= many) {
                return NONE;
            }
        }
        newCode(length, set);
        return n - (maker.length - 1);
    }

    private void newCode(int length, int set) {
        n = length;
        word = null;
        words = null;
        maker = new int[] {1};
        check = new int[] {1};
        int w = told.power(told.generator, (told.q - 1) / n);
        List<TreeSet<Integer>> all = partition(n);
        for (int c = 0; c < all.size(); c++) {
            for (int i : all.get(c)) {
                int root = told.power(w, i);
                if (c < 31 && (set >>> c & 1) == 1) {
                    maker = byFactor(maker, root);
                } else {
                    check = byFactor(check, root);
                }
            }
        }
        for (int c : maker) {
            if (c < 0 || c >= told.m) {
                throw new AssertionError("MAKER isn't over the residues");
            }
        }
    }

    private int[] byFactor(int[] f, int root) {
        int[] made = new int[f.length + 1];
        for (int i = 0; i < f.length; i++) {
            made[i + 1] = told.plus(made[i + 1], f[i]);
            made[i] = told.minus(made[i], told.times(f[i], root));
        }
        return made;
    }

    int coefficient(int which, int i) {
        need(which == 0 || which == 1);
        int[] f = which == 0 ? maker : check;
        if (i == NONE) {
            return f.length - 1;
        }
        need(i >= 0 && i < f.length);
        return f[i];
    }

    boolean isSmall() {
        return Math.pow(told.m, n - (maker.length - 1)) <= 65536;
    }

    /** MAKER times all polynomials of less than SIZE coefficients. */
    List<int[]> allWords() {
        if (words == null) {
            words = new ArrayList<>();
            int size = n - (maker.length - 1);
            int many = (int) Math.pow(told.m, size);
            for (int i = 0; i < many; i++) {
                int[] row = new int[n];
                int left = i;
                for (int j = 0; j < size; j++) {
                    int by = left % told.m;
                    left /= told.m;
                    for (int k = 0; by > 0 && k < maker.length; k++) {
                        row[j + k] = (row[j + k] + by * maker[k]) % told.m;
                    }
                }
                words.add(row);
            }
        }
        return words;
    }

    private int weight(boolean lee, int[] row) {
        int total = 0;
        for (int c : row) {
            total += lee ? Math.min(c, told.m - c) : c == 0 ? 0 : 1;
        }
        return total;
    }

    int weighing(boolean lee, int w) {
        if (!isSmall() || w < 0) {
            return NONE;
        }
        int many = 0;
        for (int[] row : allWords()) {
            many += weight(lee, row) == w ? 1 : 0;
        }
        return many;
    }

    int lightest(boolean lee) {
        if (!isSmall()) {
            return NONE;
        }
        int least = NONE;
        for (int[] row : allWords()) {
            int w = weight(lee, row);
            if (w > 0 && (least == NONE || w < least)) {
                least = w;
            }
        }
        return least;
    }

    /** By CHECK: times it, a WORD of the CODE is 0 by X^n - 1. */
    boolean isInCode(int[] row) {
        int[] total = new int[n];
        for (int i = 0; i < n; i++) {
            for (int j = 0; j < check.length; j++) {
                total[(i + j) % n] = (total[(i + j) % n] + row[i] * check[j]) % told.m;
            }
        }
        for (int c : total) {
            if (c != 0) {
                return false;
            }
        }
        return true;
    }

    int word() {
        if (tape.size() < n) {
            throw new IllegalArgumentException();
        }
        List<Integer> bytes = tape.subList(0, n);
        tape = new ArrayList<>();
        int[] row = new int[n];
        for (int i = 0; i < n; i++) {
            row[i] = bytes.get(i);
            if (row[i] >= told.m) {
                return NONE;
            }
        }
        word = row;
        return isInCode(row) ? 1 : 0;
    }

    int number(int i) {
        need(word != null && i >= 0 && i < n);
        return word[i];
    }

    int rest(int i) {
        need(word != null && i >= 0 && i < maker.length - 1);
        return left(word, maker, told.m)[i];
    }

    int mend(int what) {
        need(word != null && what >= 0 && what <= 2);
        int[] found = {0, NONE, NONE};
        for (int i = 0; !isInCode(word) && i < n; i++) {
            for (int v = 1; v < told.m; v++) {
                int[] other = word.clone();
                other[i] = (other[i] + v) % told.m;
                if (isInCode(other)) {
                    found[1] = found[0] == 0 ? i : found[1];
                    found[2] = found[0] == 0 ? v : found[2];
                    found[0]++;
                }
            }
        }
        return found[what];
    }

    int nearest(int i) {
        need(word != null && i >= NONE && i < n);
        if (!isSmall()) {
            return NONE;
        }
        int[] best = null;
        int fewest = 0;
        for (int[] row : allWords()) {
            int off = 0;
            for (int j = 0; j < n; j++) {
                off += row[j] == word[j] ? 0 : 1;
            }
            if (best == null || off < fewest || off == fewest && Arrays.compare(row, best) < 0) {
                best = row;
                fewest = off;
            }
        }
        return i == NONE ? fewest : best[i];
    }

    int say(int x) {
        need(has(x));
        List<String> parts = new ArrayList<>();
        int[] row = told.spread(x);
        for (int i = told.r - 1; i >= 0; i--) {
            String t = i == 0 ? "" : i == 1 ? "t" : "t^" + i;
            if (row[i] != 0) {
                parts.add(i == 0 ? "" + row[i] : row[i] == 1 ? t : row[i] + "*" + t);
            }
        }
        spoken = parts.isEmpty() ? "0" : String.join("+", parts);
        return spoken.length();
    }

    int said(int i) {
        return i >= 0 && i < spoken.length() ? spoken.charAt(i) : NONE;
    }
}
