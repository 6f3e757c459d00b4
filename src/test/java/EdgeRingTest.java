import java.util.Arrays;

/** The edges that the document names for RINGS and PLACES: Terms 1, promises 1, 2, 6, 7, 8. */
public final class EdgeRingTest extends Edge {
    public static void main(String[] args) {
        EdgeRingTest test = new EdgeRingTest();
        test.aNewObject();
        test.ringsThatThereAre();
        test.noSuchP();
        test.noSuchE();
        test.noSuchR();
        test.moreThan4096();
        test.whatANewRingTakesAway();
        test.whatANewRingLeaves();
        test.modMWrapsRound();
        test.modulusWrapsRound();
        test.leastAndGreatestLevel();
        test.rootsAmongElements();
        test.leastGenerator();
        test.orderOfOne();
        test.traceBelowM();
        test.normBelowM();
        test.movedOften();
        test.placesOfPut();
        test.elementsOfPut();
        test.whatOfCount();
        test.countsOfTheLeastRings();
        test.coefficientsOfModulus();
        test.the512thCall();
        test.twoObjects();
        Check.end("EdgeRingTest");
    }

    private void aNewObject() {
        sentence("1, the RING of p 2, e 1, r 1", x -> { });
        row("count", i -> x -> x.count(i), 2, 1, 1, 2, 2, 2, 1, 1, 1, 1, 0, 1, 1);
        row("modulus", i -> x -> x.modulus(i), 0, 1);
        noElement("modulus 2", x -> x.modulus(2));
        sentence("1, all PLACES 0", x -> { });
        row("place", i -> x -> x.put(i, 1), 0, 0, 0, 0, 0, 0, 0, 0);
        sentence("3, at first the CODE is that of n 1 and no CLASS", x -> { });
        row("MAKER", i -> x -> x.coefficient(0, i), 1);
        row("CHECK", i -> x -> x.coefficient(1, i), 1, 1);
        row("WEIGHT", i -> x -> x.weighing(false, i), 1, 1, 0);
        sentence("24, no WORD yet", x -> { });
        noElement("number", x -> x.number(0));
        noElement("rest", x -> x.rest(0));
        noElement("mend", x -> x.mend(0));
        noElement("nearest", x -> x.nearest(NONE));
    }

    private void ringsThatThereAre() {
        // p, then the greatest r for each e
        int[][] greatest = {{2, 6, 6, 4, 3}, {3, 6, 3, 2, 1}, {5, 5, 2, 1, 1}, {7, 4, 2, 1, 1}};
        for (int[] g : greatest) {
            int p = g[0];
            for (int i = 1; i <= 4; i++) {
                int e = i;
                sentence("2, how many ELEMENTS, p " + p + " e " + e, x -> { });
                int elements = 1;
                for (int j = 1; j <= g[e]; j++) {
                    int r = j;
                    elements *= (int) Math.pow(p, e);
                    is("r " + r, x -> x.ring(p, e, r), elements);
                    is("count", x -> x.count(5), elements);
                }
                none("behind", x -> x.ring(p, e, g[e] + 1));
                none("far behind", x -> x.ring(p, e, GREATEST));
                none("ahead", x -> x.ring(p, e, 0));
            }
        }
    }

    private void noSuchP() {
        sentence("2, NONE (nothing changes): no such p", busy(3, 2, 2, 8, 6));
        for (int p : new int[] {LEAST, -7, -5, -3, -2, -1, 0, 1, 4, 6, 8, 9, 10, 11, 12, 13, 16, 17, 49, GREATEST}) {
            none("p " + p, x -> x.ring(p, 1, 1));
            none("p " + p, x -> x.ring(p, 2, 1));
        }
    }

    private void noSuchE() {
        sentence("2, NONE (nothing changes): no such e", busy(2, 2, 3, 7, 3));
        for (int e : new int[] {LEAST, -4, -1, 0, 5, 6, 12, 31, 32, 33, 64, GREATEST}) {
            none("e " + e, x -> x.ring(2, e, 1));
            none("e " + e, x -> x.ring(2, e, 2));
            none("e " + e, x -> x.ring(3, e, 1));
        }
        none("e 0 of r 6", x -> x.ring(2, 0, 6));
        none("both below 0", x -> x.ring(2, -2, -3));
        none("both below 0, 1", x -> x.ring(7, -1, -1));
        none("together 2^32", x -> x.ring(2, 65536, 65536));
    }

    private void noSuchR() {
        sentence("2, NONE (nothing changes): no such r", busy(2, 3, 2, 3, 2));
        for (int r : new int[] {LEAST, -6, -1, 0, 7, 8, 12, 31, 32, 64, GREATEST}) {
            none("r " + r, x -> x.ring(2, 1, r));
            none("r " + r, x -> x.ring(3, 1, r));
            none("r " + r, x -> x.ring(2, 4, r));
        }
    }

    private void moreThan4096() {
        sentence("1, p^(e r) is 4096 at most", busy(7, 2, 2, 48, 1));
        int[][] taken = {{2, 2, 6, 4096}, {2, 3, 4, 4096}, {2, 4, 3, 4096}, {5, 1, 5, 3125}, {7, 1, 4, 2401},
            {7, 2, 2, 2401}, {7, 4, 1, 2401}, {3, 1, 6, 729}, {3, 2, 3, 729}, {3, 3, 2, 729}, {5, 2, 2, 625}};
        for (int[] t : taken) {
            is(t[0] + " " + t[1] + " " + t[2], x -> x.ring(t[0], t[1], t[2]), t[3]);
        }
        // 8192 can't be told; 6561, 15625, 16807, 32768 are next
        int[][] refused = {{3, 2, 4}, {3, 4, 2}, {5, 1, 6}, {5, 2, 3}, {5, 3, 2}, {7, 1, 5}, {2, 3, 5}, {2, 4, 4},
            {2, 3, 6}, {2, 4, 6}, {3, 3, 3}, {3, 4, 6}, {5, 4, 2}, {5, 4, 6}, {7, 2, 3}, {7, 3, 2}, {7, 3, 6}, {7, 4, 6}};
        for (int[] t : refused) {
            none(t[0] + " " + t[1] + " " + t[2], x -> x.ring(t[0], t[1], t[2]));
        }
    }

    private void whatANewRingTakesAway() {
        int[][] rings = {{2, 2, 3}, {3, 2, 1}};
        for (int[] to : rings) {
            Ahead newRing = x -> {
                busy(2, 2, 3, 7, 3).make(x);
                x.ring(to[0], to[1], to[2]);
            };
            String told = to[0] == 2 ? " (the same one)" : " (another one)";
            sentence("2, all PLACES 0" + told, newRing);
            row("place", i -> x -> x.put(i, 0), 0, 0, 0, 0, 0, 0, 0, 0);
            sentence("2, the CODE of n 1 and no CLASS" + told, newRing);
            is("n", x -> x.count(8), 1);
            is("SIZE", x -> x.count(9), 1);
            row("MAKER", i -> x -> x.coefficient(0, i), 1);
            row("CHECK", i -> x -> x.coefficient(1, i), to[0] == 2 ? 3 : 8, 1);
            is("all WORDS", x -> x.weighing(false, 1), to[0] == 2 ? 3 : 8);
            sentence("2, no WORD" + told, newRing);
            noElement("number", x -> x.number(0));
            noElement("rest", x -> x.rest(0));
            noElement("mend", x -> x.mend(0));
            noElement("mend 2", x -> x.mend(2));
            noElement("nearest", x -> x.nearest(NONE));
            noElement("nearest 0", x -> x.nearest(0));
        }
    }

    private void whatANewRingLeaves() {
        int[][] rings = {{2, 2, 3}, {3, 2, 2}};
        for (int[] to : rings) {
            sentence("2, the tape, fault(), what was SAID stay", x -> {
                busy(2, 2, 3, 7, 3).make(x);
                x.ring(to[0], to[1], to[2]);
            });
            is("the tape", x -> x.count(10), 20);
            is("fault()", x -> x.fault(), 1);
            row("SAID", i -> x -> x.said(i), '3', '*', 't', '^', '2', '+', '3', '*', 't', '+', '3', NONE);
            x.put(3, 2);
            is("what is on the tape", x -> x.tell(0, 20), 3);
        }
    }

    private void modMWrapsRound() {
        sentence("1, added digit by digit MOD M", 2, 2, 2);
        is("3 and 1", x -> x.element(0, 3, 1), 0);
        is("3 t and t", x -> x.element(0, 12, 4), 0);
        is("15 and 5", x -> x.element(0, 15, 5), 0);
        is("15 and 1", x -> x.element(0, 15, 1), 12);
        is("0 less 1", x -> x.element(1, 0, 1), 3);
        is("0 less t", x -> x.element(1, 0, 4), 12);
        is("t less 1", x -> x.element(1, 4, 1), 7);
        is("3 times 3", x -> x.element(2, 3, 3), 1);
        sentence("1, added digit by digit MOD M, M 2401", 7, 4, 1);
        is("2400 and 1", x -> x.element(0, 2400, 1), 0);
        is("2400 and 2400", x -> x.element(0, 2400, 2400), 2399);
        is("0 less 2400", x -> x.element(1, 0, 2400), 1);
        is("2400 times 2400", x -> x.element(2, 2400, 2400), 1);
        is("49 times 49", x -> x.element(2, 49, 49), 0);
        sentence("1, added digit by digit MOD M, M 2", x -> { });
        is("1 and 1", x -> x.element(0, 1, 1), 0);
        is("0 less 1", x -> x.element(1, 0, 1), 1);
    }

    private void modulusWrapsRound() {
        sentence("1, multiplied MOD MODULUS, t^2 + 1", 3, 2, 2);
        is("t times t", x -> x.element(2, 9, 9), 8);
        is("8 t + 8 by itself", x -> x.element(2, 80, 80), 18);
        is("1 by 8 t + 8", x -> x.element(3, 1, 80), 49);
        sentence("1, multiplied MOD MODULUS, t^6 and less", 2, 1, 6);
        row("t^6 + t + 1", i -> x -> x.modulus(i), 1, 1, 0, 0, 0, 0, 1);
        is("t^5 times t", x -> x.element(2, 32, 2), 3);
        is("t^5 times t^5", x -> x.element(2, 32, 32), 48);
        is("t^3 times t^2", x -> x.element(2, 8, 4), 32);
        int[][] due = {{2, 1, 2, 1, 1, 1}, {2, 1, 3, 1, 1, 0, 1}, {2, 1, 4, 1, 1, 0, 0, 1}, {2, 1, 5, 1, 0, 1, 0, 0, 1},
            {2, 2, 3, 3, 1, 2, 1}, {2, 2, 2, 1, 1, 1}, {3, 1, 2, 1, 0, 1}, {3, 1, 3, 1, 2, 0, 1}, {5, 1, 2, 2, 0, 1},
            {7, 1, 2, 1, 0, 1}, {7, 2, 2, 1, 0, 1}, {5, 2, 2, 7, 0, 1}};
        for (int[] d : due) {
            sentence("1, MODULUS makes the least number, " + d[0] + " " + d[1] + " " + d[2], d[0], d[1], d[2]);
            row("coefficient", i -> x -> x.modulus(i), Arrays.copyOfRange(d, 3, d.length));
        }
        sentence("1, MODULUS for r 1 is t", 7, 2, 1);
        is("8 times 8", x -> x.element(2, 8, 8), 15);
    }

    private void leastAndGreatestLevel() {
        sentence("1, LEVEL: the greatest i (0 to e)", 2, 4, 2);
        int[][] due = {{0, 4}, {1, 0}, {2, 1}, {3, 0}, {4, 2}, {8, 3}, {15, 0}, {16, 0}, {24, 0}, {32, 1}, {66, 1},
            {64 + 8, 2}, {128, 3}, {136, 3}, {255, 0}};
        for (int[] d : due) {
            is("of " + d[0], x -> x.of(d[0], 0), d[1]);
        }
        row("how many", i -> x -> x.many(0, i), 192, 48, 12, 3, 1, 0, 0);
        sentence("1, LEVEL of 0: e; of a UNIT: 0", 3, 1, 2);
        row("of", i -> x -> x.of(i, 0), 1, 0, 0, 0, 0, 0, 0, 0, 0);
        sentence("1, LEVEL of 0: e; e 4, r 1", 5, 4, 1);
        is("of 0", x -> x.of(0, 0), 4);
        is("of 125", x -> x.of(125, 0), 3);
        is("of 500", x -> x.of(500, 0), 3);
        is("of 600", x -> x.of(600, 0), 2);
        is("of 620", x -> x.of(620, 0), 1);
        is("of 624", x -> x.of(624, 0), 0);
    }

    private void rootsAmongElements() {
        int[][] rings = {{2, 1, 1}, {2, 4, 2}, {3, 4, 1}, {5, 2, 1}, {7, 3, 1}, {2, 2, 4}, {2, 1, 6}};
        for (int[] ring : rings) {
            sentence("1, ROOTS (there are Q, one of them 0)", ring[0], ring[1], ring[2]);
            int many = 0;
            for (int i = 0; i < x.count(5); i++) {
                many += x.of(i, 1) == i ? 1 : 0;
            }
            Check.same("ROOTS of " + ring[0] + " " + ring[1] + " " + ring[2], many, (int) Math.pow(ring[0], ring[2]));
            is("of 0", x -> x.of(0, 1), 0);
            is("of 1", x -> x.of(1, 1), 1);
        }
        sentence("1, ROOT OF an ELEMENT (it is a ROOT): 0 of no UNIT", 2, 4, 2);
        for (int i : new int[] {0, 2, 4, 8, 32, 34, 128, 136, 238}) {
            is("of " + i, x -> x.of(i, 1), 0);
        }
        is("of 15", x -> x.of(15, 1), 1);
        is("of 255", x -> x.of(255, 1), 255);
        is("of t", x -> x.of(16, 1), 16);
        is("of 3 t", x -> x.of(48, 1), 16);
    }

    private void leastGenerator() {
        int[][] due = {{2, 1, 1, 1}, {2, 4, 1, 1}, {3, 1, 1, 2}, {3, 2, 1, 8}, {3, 4, 1, 80}, {5, 1, 1, 2}, {5, 2, 1, 7},
            {7, 1, 1, 3}, {7, 2, 1, 19}, {2, 1, 2, 2}, {2, 4, 2, 16}, {2, 1, 6, 2}, {3, 1, 2, 4}};
        for (int[] d : due) {
            sentence("1, GENERATOR: the least ROOT", d[0], d[1], d[2]);
            is(d[0] + " " + d[1] + " " + d[2], x -> x.count(7), d[3]);
            int g = d[3];
            is("ORDER", x -> x.of(g, 7), (int) Math.pow(d[0], d[2]) - 1);
        }
    }

    private void orderOfOne() {
        sentence("1, ORDER: the least n (1 on)", 2, 4, 1);
        row("of", i -> x -> x.of(i, 7), NONE, 1, NONE, 4, NONE, 4, NONE, 2, NONE, 2, NONE, 4, NONE, 4, NONE, 2);
        sentence("1, ORDER: the greatest one", 7, 2, 1);
        is("of 1", x -> x.of(1, 7), 1);
        is("of 3", x -> x.of(3, 7), 42);
        is("of 8", x -> x.of(8, 7), 7);
        is("of 48", x -> x.of(48, 7), 2);
        is("12", x -> x.count(12), 42);
        sentence("1, ORDER, Q 2", x -> { });
        row("of", i -> x -> x.of(i, 7), NONE, 1);
    }

    private void traceBelowM() {
        sentence("1, TRACE: 0 to M - 1", 2, 2, 6);
        is("of 0", x -> x.of(0, 3), 0);
        is("of 1", x -> x.of(1, 3), 2);
        is("of 3", x -> x.of(3, 3), 2);
        row("how many", i -> x -> x.many(1, i), 1024, 1024, 1024, 1024, 0, 0);
        sentence("1, TRACE: it, it MOVED, .. (r of them), r 2", 2, 2, 2);
        row("of", i -> x -> x.of(i, 3), 0, 2, 0, 2, 3, 1, 3, 1, 2, 0, 2, 0, 1, 3, 1, 3);
        sentence("1, TRACE: it, it MOVED, MOVED twice, .. (r of them), r 3", 2, 2, 3);
        for (int i = 0; i < 64; i++) {
            int y = i;
            // by MODULUS t^3 + 2 t^2 + t + 3 the three of 1, t, t^2 together are 3, 2, 2
            is("of " + i, x -> x.of(y, 3), (3 * (y % 4) + 2 * (y / 4 % 4) + 2 * (y / 16)) % 4);
        }
        sentence("1, TRACE: it, it MOVED, MOVED twice, .. (r of them), r 6", 2, 1, 6);
        for (int i = 0; i < 64; i++) {
            int y = i;
            // by MODULUS t^6 + t + 1 those of 1, t, .. t^4 are 0, that of t^5 is 1
            is("of " + i, x -> x.of(y, 3), y / 32);
        }
        sentence("1, TRACE, r 1: itself", 5, 2, 1);
        is("of 24", x -> x.of(24, 3), 24);
        is("of 0", x -> x.of(0, 3), 0);
        sentence("1, TRACE of 1 is 0 where p divides r", 3, 1, 6);
        is("of 1", x -> x.of(1, 3), 0);
    }

    private void normBelowM() {
        sentence("1, NORM: 0 to M - 1", 2, 2, 3);
        is("of 0", x -> x.of(0, 4), 0);
        is("of 1", x -> x.of(1, 4), 1);
        is("of 2", x -> x.of(2, 4), 0);
        is("of 3", x -> x.of(3, 4), 3);
        row("how many", i -> x -> x.many(2, i), 8, 28, 0, 28, 0, 0);
        sentence("1, NORM: these times one another, r 2", 2, 2, 2);
        row("of", i -> x -> x.of(i, 4), 0, 1, 0, 1, 1, 1, 3, 3, 0, 3, 0, 3, 1, 3, 3, 1);
        sentence("1, NORM: these times one another, r 3", 2, 2, 3);
        int[][] due = {{4, 1}, {12, 3}, {16, 1}, {5, 1}, {7, 1}, {8, 0}, {10, 0}, {6, 3}};
        for (int[] d : due) {
            is("of " + d[0], x -> x.of(d[0], 4), d[1]);
        }
        sentence("1, NORM, r 1: itself", 5, 2, 1);
        is("of 24", x -> x.of(24, 4), 24);
        is("of 5", x -> x.of(5, 4), 5);
    }

    private void movedOften() {
        sentence("1, MOVED r times it is itself", 2, 2, 6);
        int y = 4095 - 8;
        for (int i = 1; i <= 6; i++) {
            y = x.of(y, 2);
            Check.same("MOVED " + i + " times", y == 4095 - 8 ? 1 : 0, i == 6 ? 1 : 0);
        }
        sentence("1, MOVED, r 1: itself", 7, 4, 1);
        is("of 2400", x -> x.of(2400, 2), 2400);
        is("of 0", x -> x.of(0, 2), 0);
    }

    private void placesOfPut() {
        sentence("6, NoSuchElementException: no such PLACE", busy(3, 2, 2, 8, 6));
        is("0", x -> x.put(0, 80), 1);
        is("0 has it", x -> x.put(0, 0), 80);
        is("7", x -> x.put(7, 79), 36);
        is("7 has it", x -> x.put(7, 0), 79);
        is("6 has what it had", x -> x.put(6, 0), 31);
        for (int place : new int[] {LEAST, -8, -1, 8, 9, 16, GREATEST}) {
            noElement("place " + place, x -> x.put(place, 0));
            noElement("place " + place + ", and no ELEMENT", x -> x.put(place, 81));
        }
    }

    private void elementsOfPut() {
        int[][] rings = {{2, 1, 1}, {3, 2, 2}, {2, 2, 6}, {7, 4, 1}};
        for (int[] ring : rings) {
            sentence("6, NoSuchElementException: no such ELEMENT", busy(ring[0], ring[1], ring[2], 1, 0));
            int size = x.count(5);
            is("what it had", x -> x.put(3, 0), 16 % size);
            is("0", x -> x.put(3, size - 1), 0);
            is("the last", x -> x.put(3, 0), size - 1);
            for (int y : new int[] {LEAST, -size, -1, size, size + 1, 4096, GREATEST}) {
                noElement("ELEMENT " + y, x -> x.put(3, y));
            }
        }
    }

    private void whatOfCount() {
        sentence("7, NoSuchElementException: another what", busy(3, 2, 2, 8, 6));
        row("count", i -> x -> x.count(i), 3, 2, 2, 9, 9, 81, 72, 20, 8, 4, 20, 2, 24);
        for (int what : new int[] {LEAST, -2, -1, 13, 14, GREATEST}) {
            noElement("what " + what, x -> x.count(what));
        }
    }

    private void countsOfTheLeastRings() {
        sentence("7, 11 RINGS WITHIN (how many d there are)", x -> { });
        int[] due = {1, 2, 2, 3, 2, 4};
        for (int r = 1; r <= 6; r++) {
            int degree = r;
            x.ring(2, 1, r);
            is("r " + r, x -> x.count(11), due[degree - 1]);
        }
        sentence("7, 12 the least n (1 on) by which the POWER of each UNIT is 1", x -> { });
        int[][] rings = {{2, 1, 1, 1}, {2, 2, 1, 2}, {2, 3, 1, 2}, {2, 4, 1, 4}, {2, 3, 2, 12}, {2, 4, 2, 24}, {3, 1, 1, 2},
            {3, 2, 1, 6}, {3, 4, 1, 54}, {7, 4, 1, 2058}, {5, 1, 5, 3124}, {2, 2, 6, 126}};
        for (int[] d : rings) {
            x.ring(d[0], d[1], d[2]);
            is(d[0] + " " + d[1] + " " + d[2], x -> x.count(12), d[3]);
        }
        sentence("7, 10 bytes of the tape", x -> { });
        is("none", x -> x.count(10), 0);
        for (int i = 0; i < 10; i++) {
            x.feed(0, 0, 0, 0, 0);
        }
        is("200", x -> x.count(10), 200);
    }

    private void coefficientsOfModulus() {
        int[][] rings = {{2, 1, 1, 0, 1}, {7, 4, 1, 0, 1}, {3, 2, 2, 1, 0, 1}, {2, 2, 3, 3, 1, 2, 1}, {2, 1, 6, 1, 1, 0, 0, 0, 0, 1}};
        for (int[] ring : rings) {
            int r = ring[2];
            sentence("8, a coefficient of MODULUS (0 to r), r " + r, busy(ring[0], ring[1], r, 1, 0));
            for (int i = 0; i <= r; i++) {
                int at = i;
                is("" + i, x -> x.modulus(at), ring[3 + i]);
            }
            for (int i : new int[] {LEAST, -2, -1, r + 1, r + 2, 7, 8, GREATEST}) {
                noElement("" + i, x -> x.modulus(i));
            }
        }
    }

    private void the512thCall() {
        sentence("An object is used for at most 512 calls: the last is answered as the first", x -> { });
        for (int i = 0; i < 128; i++) {
            is("ring " + i, x -> x.ring(2, 2, 6), 4096);
            is("put " + i, x -> x.put(7, 4095), 0);
            is("feed " + i, x -> x.feed(0x23372b31, 0, 0, 0, 0), 20);
            is("tell " + i, x -> x.tell(0, 4), 4092);
        }
        sentence("An object is used for at most 512 calls: each of them refused", x -> { });
        for (int i = 0; i < 128; i++) {
            is("ring " + i, x -> x.ring(2, 5, 1), NONE);
            is("word " + i, x -> x.word(), Check.NO_ARGUMENT);
            is("tell " + i, x -> x.tell(0, 1), Check.NO_ARGUMENT);
            is("put " + i, x -> x.put(0, 2), Check.NO_ELEMENT);
        }
    }

    /** Of two that are used in turns, neither changes the other. */
    private void twoObjects() {
        sentence("1, a new object: all that stands is its own", busy(3, 2, 2, 8, 6));
        keeps("calls of another object", x -> {
            RootedRing other = new RootedRing();
            busy(2, 2, 3, 7, 3).make(other);
            return other.count(5);
        }, 64);
    }
}
