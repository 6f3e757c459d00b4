/** The edges that the document names for ELEMENTS: promises 9 to 18. */
public final class EdgeElementTest extends Edge {
    private static final int[][] RINGS = {{2, 1, 1}, {2, 2, 1}, {3, 2, 2}, {2, 2, 6}, {7, 4, 1}, {5, 1, 5}};

    public static void main(String[] args) {
        EdgeElementTest test = new EdgeElementTest();
        test.twoElements();
        test.anotherHow();
        test.byNoUnit();
        test.elementOf();
        test.anotherWhat();
        test.threeOfNoUnit();
        test.leastRingWithin();
        test.digits();
        test.noSuchDigit();
        test.logsOfDigits();
        test.wholeOfLogs();
        test.wholeFromEOn();
        test.sums();
        test.rootsAsked();
        test.rootsFound();
        test.zerosAsked();
        test.zerosFound();
        test.ringsWithin();
        test.ringWithinFound();
        test.unitsAsked();
        test.manyAsked();
        test.manyLevels();
        test.manyTracesAndNorms();
        test.manyMoved();
        Check.end("EdgeElementTest");
    }

    private void twoElements() {
        for (int[] ring : RINGS) {
            sentence("9, NoSuchElementException: no such ELEMENTS", busy(ring[0], ring[1], ring[2], 1, 0));
            int last = x.count(5) - 1;
            for (int i = 0; i <= 3; i++) {
                int how = i;
                is("the first 0, how " + how, x -> x.element(how, 0, 1), how == 1 ? x.element(2, 1, x.count(3) - 1)
                    : how == 0 ? 1 : 0);
                is("the last by itself, how " + how, x -> x.element(how, last, last), how == 0 ? x.element(2, 2 % x.count(3), last)
                    : how == 1 ? 0 : how == 3 ? 1 : x.element(2, 1, x.element(2, last, last)));
                for (int y : new int[] {LEAST, -2, -1, last + 1, last + 2, GREATEST}) {
                    noElement("the first " + y + ", how " + how, x -> x.element(how, y, 1));
                    noElement("the second " + y + ", how " + how, x -> x.element(how, 1, y));
                    noElement("both " + y + ", how " + how, x -> x.element(how, y, y));
                }
            }
        }
        sentence("9, the last ELEMENTS", 3, 2, 2);
        row("80 and 1", i -> x -> x.element(i, 80, 1), 72, 79, 80, 80);
        row("1 and 80", i -> x -> x.element(i, 1, 80), 72, 11, 80, 49);
        row("0 and 80", i -> x -> x.element(i, 0, 80), 80, 10, 0, 0);
    }

    private void anotherHow() {
        sentence("9, NoSuchElementException: another how", busy(2, 2, 3, 7, 3));
        for (int how : new int[] {LEAST, -3, -2, -1, 4, 5, 7, GREATEST}) {
            noElement("how " + how, x -> x.element(how, 1, 1));
            noElement("how " + how + ", no UNIT", x -> x.element(how, 1, 2));
        }
    }

    private void byNoUnit() {
        sentence("9, NoSuchElementException: no UNIT (how 3)", busy(2, 2, 2, 3, 2));
        for (int i = 0; i < 16; i++) {
            int y = i;
            if (i % 4 % 2 == 0 && i / 4 % 2 == 0) {
                noElement("1 by " + i, x -> x.element(3, 1, y));
                noElement("0 by " + i, x -> x.element(3, 0, y));
                noElement("itself by " + i, x -> x.element(3, y, y));
            } else {
                is("itself by " + i, x -> x.element(3, y, y), 1);
                is("0 by " + i, x -> x.element(3, 0, y), 0);
            }
        }
        sentence("9, the second a UNIT: the first may be none", 3, 2, 1);
        row("3 by", i -> x -> i % 3 == 0 ? NONE : x.element(3, 3, i), NONE, 3, 6, NONE, 3, 6, NONE, 3, 6);
    }

    private void elementOf() {
        for (int[] ring : RINGS) {
            sentence("10, NoSuchElementException: no such ELEMENT", busy(ring[0], ring[1], ring[2], 1, 0));
            int e = ring[1];
            int size = x.count(5);
            int r = ring[2];
            row("of 0", i -> x -> x.of(0, i), e, 0, 0, 0, 0, 1, NONE, NONE, NONE);
            row("of 1", i -> x -> x.of(1, i), 0, 1, 1, r % x.count(3), 1, 1, 1, 1, 1);
            is("LEVEL of the last", x -> x.of(size - 1, 0), 0);
            for (int what = 0; what <= 8; what++) {
                int w = what;
                for (int y : new int[] {LEAST, -1, size, GREATEST}) {
                    noElement("what " + w + " of " + y, x -> x.of(y, w));
                }
            }
        }
    }

    private void anotherWhat() {
        sentence("10, NoSuchElementException: another what", busy(2, 2, 3, 7, 3));
        for (int what : new int[] {LEAST, -2, -1, 9, 10, GREATEST}) {
            noElement("what " + what + " of a UNIT", x -> x.of(1, what));
            noElement("what " + what + " of no UNIT", x -> x.of(2, what));
            noElement("what " + what + " of no ELEMENT", x -> x.of(64, what));
        }
    }

    private void threeOfNoUnit() {
        sentence("10, NONE of these three: it is none", 3, 2, 2);
        for (int y : new int[] {0, 3, 6, 27, 30, 54, 60}) {
            row("of " + y, i -> x -> x.of(y, 6 + i), NONE, NONE, NONE);
        }
        row("of 1", i -> x -> x.of(1, 6 + i), 1, 1, 1);
        row("of 4", i -> x -> x.of(4, 6 + i), 4, 3, 7);
        row("of 8", i -> x -> x.of(8, 6 + i), 1, 2, 8);
        row("of t", i -> x -> x.of(9, 6 + i), 1, 4, 72);
        sentence("10, NONE of these three, e 1", x -> { });
        row("of 0", i -> x -> x.of(0, 6 + i), NONE, NONE, NONE);
        row("of 1", i -> x -> x.of(1, 6 + i), 1, 1, 1);
    }

    private void leastRingWithin() {
        sentence("10, the least d of a RING WITHIN that has it, r 6", 2, 1, 6);
        int[] many = new int[8];
        for (int i = 0; i < 64; i++) {
            many[x.of(i, 5)]++;
        }
        int[] due = {0, 2, 2, 6, 0, 0, 54, 0};
        for (int d = 0; d < 8; d++) {
            Check.same("10, how many of the least d " + d, many[d], due[d]);
        }
        is("of 1", x -> x.of(1, 5), 1);
        is("of t", x -> x.of(2, 5), 6);
        sentence("10, the least d, r 5", 2, 1, 5);
        row("of", i -> x -> x.of(i, 5), 1, 1, 5, 5);
        sentence("10, the least d, r 1", 3, 4, 1);
        is("of 80", x -> x.of(80, 5), 1);
    }

    private void digits() {
        sentence("11, the LOG of DIGIT i", 2, 4, 1);
        row("of 15", i -> x -> x.digit(15, i), 0, 0, 0, 0);
        row("of 8", i -> x -> x.digit(8, i), NONE, NONE, NONE, 0);
        row("of 7", i -> x -> x.digit(7, i), 0, 0, 0, NONE);
        row("of 0", i -> x -> x.digit(0, i), NONE, NONE, NONE, NONE);
        sentence("11, DIGITS, r over e", 2, 2, 3);
        row("of 1 + t", i -> x -> x.digit(5, i), 3, 4);
        row("of 3 + 3 t + 3 t^2", i -> x -> x.digit(63, i), 5, 2);
        row("of 2 t^2", i -> x -> x.digit(32, i), NONE, 2);
        sentence("11, DIGITS that carry", 3, 4, 1);
        row("of 80", i -> x -> x.digit(80, i), 1, NONE, NONE, NONE);
        row("of 2", i -> x -> x.digit(2, i), 1, 0, NONE, NONE);
        row("of 78", i -> x -> x.digit(78, i), NONE, 1, NONE, NONE);
        row("of 40", i -> x -> x.digit(40, i), 0, 0, 0, 0);
        row("of 41", i -> x -> x.digit(41, i), 1, 1, 1, 1);
    }

    private void noSuchDigit() {
        int[][] rings = {{2, 1, 2}, {2, 2, 2}, {2, 3, 2}, {2, 4, 2}, {7, 4, 1}, {2, 1, 1}};
        for (int[] ring : rings) {
            int e = ring[1];
            sentence("11, NoSuchElementException: no such ELEMENT, DIGIT, e " + e, busy(ring[0], e, ring[2], 1, 0));
            int size = x.count(5);
            is("the first of 1", x -> x.digit(1, 0), 0);
            is("the last of 0", x -> x.digit(0, e - 1), NONE);
            is("the last of 1", x -> x.digit(1, e - 1), e == 1 ? 0 : NONE);
            is("the last of the last", x -> x.digit(size - size / x.count(4), e - 1) >= NONE ? 1 : 0, 1);
            for (int i : new int[] {LEAST, -2, -1, e, e + 1, 4, 5, GREATEST}) {
                noElement("DIGIT " + i, x -> x.digit(1, i));
                noElement("DIGIT " + i + " of 0", x -> x.digit(0, i));
            }
            for (int y : new int[] {LEAST, -1, size, size + 1, GREATEST}) {
                noElement("ELEMENT " + y, x -> x.digit(y, 0));
            }
        }
    }

    private void logsOfDigits() {
        int[][] rings = {{2, 1, 1}, {2, 4, 1}, {3, 2, 1}, {2, 2, 2}, {2, 4, 3}, {2, 2, 6}, {5, 1, 5}, {7, 1, 4}};
        for (int[] ring : rings) {
            sentence("1, LOG: the least n (0 on)", ring[0], ring[1], ring[2]);
            int last = x.count(4) - 2;
            int g = x.count(7);
            is("of 1", x -> x.digit(1, 0), 0);
            is("of GENERATOR", x -> x.digit(g, 0), last == 0 ? 0 : 1);
            is("of 1 by GENERATOR", x -> x.digit(x.of(g, 8), 0), last);
        }
        int[][] fields = {{2, 1, 1}, {2, 1, 6}, {3, 1, 6}, {5, 1, 5}, {7, 1, 4}};
        for (int[] ring : fields) {
            sentence("1, ROOTS, e 1: all ELEMENTS, the last too", ring[0], ring[1], ring[2]);
            int y = x.count(5) - 1;
            is("ROOT OF", x -> x.of(y, 1), y);
            is("SPLIT", x -> x.of(y, 6), 1);
            is("its LOG", x -> x.whole(x.digit(y, 0), NONE, NONE, NONE), y);
            is("by itself", x -> x.element(3, y, y), 1);
        }
    }

    private void wholeOfLogs() {
        int[][] rings = {{2, 4, 1}, {2, 4, 2}, {3, 4, 1}, {2, 4, 3}, {7, 4, 1}};
        for (int[] ring : rings) {
            sentence("12, NoSuchElementException: another number than NONE, 0 to Q - 2", busy(ring[0], 4, ring[2], 1, 0));
            int q = x.count(4);
            int p = ring[0];
            row("DIGITS 1", i -> x -> whole(x, i, 0), 1, p, p * p, p * p * p);
            row("DIGITS 0", i -> x -> whole(x, i, NONE), 0, 0, 0, 0);
            for (int i = 0; i < 4; i++) {
                int at = i;
                is("Q - 2 at " + i, x -> x.digit(whole(x, at, q - 2), at), q - 2);
                for (int log : new int[] {LEAST, -3, -2, q - 1, q, q + 1, GREATEST}) {
                    noElement(log + " at " + i, x -> whole(x, at, log));
                }
            }
            noElement("all of them", x -> x.whole(q - 1, q - 1, q - 1, q - 1));
        }
        sentence("12, all DIGITS", 2, 4, 1);
        is("15", x -> x.whole(0, 0, 0, 0), 15);
        sentence("12, all DIGITS, with carries", 3, 4, 1);
        is("40", x -> x.whole(0, 0, 0, 0), 40);
        is("41", x -> x.whole(1, 1, 1, 1), 41);
        is("3 less 9 less 27", x -> x.whole(NONE, 0, 1, 1), 48);
    }

    private static int whole(RootedRing x, int i, int log) {
        return x.whole(i == 0 ? log : NONE, i == 1 ? log : NONE, i == 2 ? log : NONE, i == 3 ? log : NONE);
    }

    private void wholeFromEOn() {
        for (int j = 1; j <= 3; j++) {
            int e = j;
            sentence("12, those from e on must be NONE, e " + e, busy(2, e, 2, 3, 1));
            for (int i = 0; i < 4; i++) {
                int at = i;
                for (int log = 0; log <= 2; log++) {
                    int due = log;
                    if (i < e) {
                        is(log + " at " + i, x -> x.digit(whole(x, at, due), at), due);
                    } else {
                        noElement(log + " at " + i, x -> whole(x, at, due));
                    }
                }
                noElement("3 at " + i, x -> whole(x, at, 3));
                noElement("-2 at " + i, x -> whole(x, at, -2));
            }
            is("all NONE", x -> x.whole(NONE, NONE, NONE, NONE), 0);
        }
        sentence("12, the least RING", x -> { });
        is("0", x -> x.whole(0, NONE, NONE, NONE), 1);
        noElement("1", x -> x.whole(1, NONE, NONE, NONE));
        noElement("0 behind", x -> x.whole(0, 0, NONE, NONE));
    }

    private void sums() {
        int[][] rings = {{2, 1, 1}, {2, 4, 2}, {3, 2, 2}, {5, 1, 5}, {7, 4, 1}};
        for (int[] ring : rings) {
            sentence("13, NoSuchElementException: no such k, DIGIT", busy(ring[0], ring[1], ring[2], 1, 0));
            int e = ring[1];
            int q = x.count(4);
            is("k 0", x -> x.sum(0, 0), ring[0] == 2 ? NONE : x.digit(2, 0));
            is("k Q - 2", x -> x.sum(q - 2, 0), x.digit(x.element(0, 1, x.of(x.count(7), 8)), 0));
            is("the last DIGIT", x -> x.sum(0, e - 1), x.digit(2 % x.count(3), e - 1));
            for (int k : new int[] {LEAST, -2, -1, q - 1, q, GREATEST}) {
                noElement("k " + k, x -> x.sum(k, 0));
            }
            for (int i : new int[] {LEAST, -1, e, e + 1, GREATEST}) {
                noElement("DIGIT " + i, x -> x.sum(0, i));
            }
        }
        sentence("13, NONE: it is 0", 2, 4, 2);
        row("1 and 1", i -> x -> x.sum(0, i), NONE, 0, NONE, NONE);
        row("1 and t^2 is -t", i -> x -> x.sum(2, i), 1, 1, 1, 1);
        sentence("13, NONE: it is 0 where GENERATOR to the k is -1", 3, 2, 2);
        row("1 and -1", i -> x -> x.sum(4, i), NONE, NONE);
    }

    private void rootsAsked() {
        for (int[] ring : RINGS) {
            sentence("14, NoSuchElementException: no such ELEMENT, n", busy(ring[0], ring[1], ring[2], 1, 0));
            int size = x.count(5);
            is("n 1 of the last", x -> x.roots(size - 1, 1, 0), size - 1);
            is("n 1 of 0", x -> x.roots(0, 1, 0), 0);
            is("n 30 of 1", x -> x.roots(1, 30, 0), 1);
            for (int n : new int[] {LEAST, -30, -1, 0, 31, 32, 60, GREATEST}) {
                noElement("n " + n, x -> x.roots(1, n, NONE));
                noElement("n " + n + " of 0", x -> x.roots(0, n, 0));
            }
            for (int y : new int[] {LEAST, -1, size, size + 1, GREATEST}) {
                noElement("ELEMENT " + y, x -> x.roots(y, 1, NONE));
                noElement("ELEMENT " + y + ", n 30", x -> x.roots(y, 30, 0));
            }
        }
    }

    private void rootsFound() {
        sentence("14, no such i", busy(3, 2, 1, 2, 0));
        list("of 1", i -> x -> x.roots(1, 2, i), 1, 8);
        list("of 0", i -> x -> x.roots(0, 30, i), 0, 3, 6);
        list("of 3, none", i -> x -> x.roots(3, 2, i));
        list("of 8, none", i -> x -> x.roots(8, 2, i));
        list("of 8, n 27", i -> x -> x.roots(8, 27, i), 2, 5, 8);
        list("n 1", i -> x -> x.roots(8, 1, i), 8);
        list("n 30", i -> x -> x.roots(1, 30, i), 1, 2, 4, 5, 7, 8);
        sentence("14, ELEMENTS whose POWER n is x, of all ELEMENTS", 2, 1, 2);
        list("of t, n 2", i -> x -> x.roots(2, 2, i), 3);
        list("of t + 1, n 2", i -> x -> x.roots(3, 2, i), 2);
        list("of t, n 3", i -> x -> x.roots(2, 3, i));
        list("of 1, n 3", i -> x -> x.roots(1, 3, i), 1, 2, 3);
        sentence("14, no such i, many of them", 2, 2, 6);
        is("of 0", x -> x.roots(0, 2, NONE), 64);
        is("the last", x -> x.roots(0, 2, 63), 2730);
        noElement("behind", x -> x.roots(0, 2, 64));
        is("of 1", x -> x.roots(1, 30, NONE), 192);
        is("the last", x -> x.roots(1, 30, 191) > x.roots(1, 30, 190) ? 1 : 0, 1);
        noElement("behind", x -> x.roots(1, 30, 192));
    }

    private void zerosAsked() {
        sentence("15, NoSuchElementException: no such n", busy(3, 2, 1, 2, 0));
        for (int n : new int[] {LEAST, -2, -1, 8, 9, GREATEST}) {
            noElement("n " + n, x -> x.zeros(n, NONE));
            noElement("n " + n, x -> x.zeros(n, 0));
        }
        sentence("15, n (0 to 7): PLACE n is looked at, that behind it isn't", 5, 1, 1);
        for (int i = 0; i < 8; i++) {
            int n = i;
            x = made();
            // 1 + 4 y^n is 0 where y^n is 1
            x.put(0, 1);
            if (n > 0) {
                x.put(n, 4);
                is("n " + (n - 1), x -> x.zeros(n - 1, NONE), 0);
            }
            is("n " + n, x -> x.zeros(n, NONE), n == 0 ? 0 : n == 4 ? 4 : n % 2 == 0 ? 2 : 1);
        }
    }

    private void zerosFound() {
        sentence("15, no such i", 3, 2, 1);
        x.put(0, 0);
        list("0 alone", i -> x -> x.zeros(0, i), 0, 1, 2, 3, 4, 5, 6, 7, 8);
        sentence("15, no such i, none", x -> {
            x.ring(3, 2, 1);
            x.put(0, 1);
        });
        list("1 alone", i -> x -> x.zeros(0, i));
        list("1, and 0 y to the 7", i -> x -> x.zeros(7, i));
        sentence("15, no such i, some", x -> {
            x.ring(3, 2, 1);
            x.put(1, 3);
            x.put(2, 3);
        });
        list("3 y and 3 y^2", i -> x -> x.zeros(2, i), 0, 2, 3, 5, 6, 8);
        list("3 y", i -> x -> x.zeros(1, i), 0, 3, 6);
        sentence("15, all 4096", 2, 2, 6);
        is("how many", x -> x.zeros(7, NONE), 4096);
        is("the last", x -> x.zeros(7, 4095), 4095);
        noElement("behind", x -> x.zeros(7, 4096));
    }

    private void ringsWithin() {
        int[][] due = {{1, 1}, {2, 1, 2}, {3, 1, 3}, {4, 1, 2, 4}, {5, 1, 5}, {6, 1, 2, 3, 6}};
        for (int[] row : due) {
            int r = row[0];
            sentence("16, NoSuchElementException: no such d, r " + r, busy(2, 2, r, 1, 0));
            int at = 1;
            for (int i = -1; i <= 13; i++) {
                int d = i;
                if (at < row.length && row[at] == d) {
                    is("d " + d, x -> x.within(d, NONE), (int) Math.pow(4, d));
                    is("d " + d + ", the first", x -> x.within(d, 0), 0);
                    at++;
                } else {
                    noElement("d " + d, x -> x.within(d, NONE));
                    noElement("d " + d + ", the first", x -> x.within(d, 0));
                }
            }
            for (int d : new int[] {LEAST, -r, GREATEST}) {
                noElement("d " + d, x -> x.within(d, NONE));
            }
        }
    }

    private void ringWithinFound() {
        sentence("16, no such i", busy(2, 2, 2, 3, 1));
        list("d 1", i -> x -> x.within(1, i), 0, 1, 2, 3);
        list("d 2", i -> x -> x.within(2, i), 0, 1, 2, 3, 4, 5, 6, 7, 8, 9, 10, 11, 12, 13, 14, 15);
        sentence("16, all 4096", 2, 2, 6);
        is("the last", x -> x.within(6, 4095), 4095);
        noElement("behind", x -> x.within(6, 4096));
        is("the last of d 3", x -> x.within(3, 63) > x.within(3, 62) ? 1 : 0, 1);
        noElement("behind d 3", x -> x.within(3, 64));
        sentence("16, the least RING", x -> { });
        list("d 1", i -> x -> x.within(1, i), 0, 1);
    }

    private void unitsAsked() {
        sentence("17, NoSuchElementException: n isn't 1 to 9999", busy(3, 2, 1, 2, 0));
        is("1", x -> x.units(1), 1);
        is("9999", x -> x.units(9999), 3);
        is("9998", x -> x.units(9998), 2);
        is("9996", x -> x.units(9996), 6);
        for (int n : new int[] {LEAST, -9999, -1, 0, 10000, 10001, 19998, GREATEST}) {
            noElement("" + n, x -> x.units(n));
        }
        sentence("17, all UNITS", 2, 2, 6);
        is("9999", x -> x.units(9999), 9);
        is("126", x -> x.units(126), 63 * 64);
        is("1", x -> x.units(1), 1);
        is("2", x -> x.units(2), 64);
        sentence("17, the least RING", x -> { });
        is("1", x -> x.units(1), 1);
        is("9999", x -> x.units(9999), 1);
    }

    private void manyAsked() {
        sentence("18, NoSuchElementException: another what, v below 0", busy(2, 2, 3, 7, 3));
        for (int what : new int[] {LEAST, -2, -1, 4, 5, GREATEST}) {
            noElement("what " + what, x -> x.many(what, 0));
            noElement("what " + what + ", v 1", x -> x.many(what, 1));
        }
        for (int i = 0; i <= 3; i++) {
            int what = i;
            is("what " + i + ", v 0", x -> x.many(what, 0), new int[] {56, 16, 8, 64}[what]);
            for (int v : new int[] {LEAST, -64, -2, -1}) {
                noElement("what " + i + ", v " + v, x -> x.many(what, v));
            }
        }
    }

    private void manyLevels() {
        sentence("18, LEVEL 0 to e", 3, 2, 2);
        row("what 0", i -> x -> x.many(0, i), 72, 8, 1, 0, 0);
        is("the greatest v", x -> x.many(0, GREATEST), 0);
        sentence("18, LEVEL 0 to e, e 4", 2, 4, 3);
        row("what 0", i -> x -> x.many(0, i), 3584, 448, 56, 7, 1, 0);
        sentence("18, LEVEL 0 to e, e 1", x -> { });
        row("what 0", i -> x -> x.many(0, i), 1, 1, 0);
    }

    private void manyTracesAndNorms() {
        sentence("18, TRACE and NORM 0 to M - 1", 2, 2, 2);
        row("what 1", i -> x -> x.many(1, i), 4, 4, 4, 4, 0, 0);
        row("what 2", i -> x -> x.many(2, i), 4, 6, 0, 6, 0, 0);
        is("the greatest v", x -> x.many(1, GREATEST), 0);
        is("the greatest v", x -> x.many(2, GREATEST), 0);
        sentence("18, TRACE and NORM, M 2401", 7, 4, 1);
        for (int i = 1; i <= 2; i++) {
            int what = i;
            is("what " + i + ", 0", x -> x.many(what, 0), 1);
            is("what " + i + ", M - 1", x -> x.many(what, 2400), 1);
            is("what " + i + ", M", x -> x.many(what, 2401), 0);
        }
        sentence("18, TRACE and NORM, the least RING", x -> { });
        row("what 1", i -> x -> x.many(1, i), 1, 1, 0);
        row("what 2", i -> x -> x.many(2, i), 1, 1, 0);
    }

    private void manyMoved() {
        sentence("18, MOVED v times, r 6", 2, 2, 6);
        row("what 3", i -> x -> x.many(3, i), 4096, 4, 16, 64, 16, 4, 4096, 4, 16);
        is("the greatest v", x -> x.many(3, GREATEST), 4);
        is("one less", x -> x.many(3, GREATEST - 1), 4096);
        sentence("18, MOVED v times, r 1", 5, 4, 1);
        row("what 3", i -> x -> x.many(3, i), 625, 625, 625);
        is("the greatest v", x -> x.many(3, GREATEST), 625);
        sentence("18, MOVED v times, r 5", 5, 1, 5);
        row("what 3", i -> x -> x.many(3, i), 3125, 5, 5, 5, 5, 3125);
    }
}
