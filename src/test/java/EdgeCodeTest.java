import java.util.Arrays;

/** The edges that the document names for CLASSES and CODES: Terms 3, promises 19 to 23. */
public final class EdgeCodeTest extends Edge {
    public static void main(String[] args) {
        EdgeCodeTest test = new EdgeCodeTest();
        test.lengths();
        test.lengthsFarOff();
        test.classesFound();
        test.mostClasses();
        test.classesAsked();
        test.setBelowNone();
        test.noSuchClass();
        test.anotherCode();
        test.noClassAndAll();
        test.degrees();
        test.smallAtMost();
        test.notSmall();
        test.weightsAsked();
        test.weightsOfTheLeastCodes();
        test.leeWeights();
        test.lightestWords();
        Check.end("EdgeCodeTest");
    }

    private void lengths() {
        // p, e, r, then each n that there is, and the least over 63 that divides Q - 1 (0: none)
        int[][] rings = {{2, 1, 1, 1, 0}, {2, 4, 1, 1, 0}, {3, 1, 1, 1, 2, 0}, {5, 1, 1, 1, 2, 4, 0}, {7, 4, 1, 1, 2, 3, 6, 0},
            {2, 2, 2, 1, 3, 0}, {2, 2, 6, 1, 3, 7, 9, 21, 63, 0}, {3, 1, 4, 1, 2, 4, 5, 8, 10, 16, 20, 40, 80},
            {5, 1, 5, 1, 2, 4, 11, 22, 44, 71},
            {7, 1, 4, 1, 2, 3, 4, 5, 6, 8, 10, 12, 15, 16, 20, 24, 25, 30, 32, 40, 48, 50, 60, 75},
            {3, 1, 6, 1, 2, 4, 7, 8, 13, 14, 26, 28, 52, 56, 91}, {5, 1, 3, 1, 2, 4, 31, 62, 124}, {2, 1, 5, 1, 31, 0},
            {5, 1, 4, 1, 2, 3, 4, 6, 8, 12, 13, 16, 24, 26, 39, 48, 52, 78}, {3, 1, 5, 1, 2, 11, 22, 121}};
        for (int[] ring : rings) {
            String told = ring[0] + " " + ring[1] + " " + ring[2];
            sentence("3, n (1 to 63) divide Q - 1, " + told, ring[0], ring[1], ring[2]);
            int[] due = Arrays.copyOfRange(ring, 3, ring.length - 1);
            for (int i = -2; i <= 66; i++) {
                int n = i;
                boolean there = Arrays.binarySearch(due, n) >= 0;
                is("classes " + n, x -> Math.min(1, x.classes(n, NONE, NONE)), there ? 1 : Check.NO_ELEMENT);
                is("code " + n, x -> x.code(n, 0), there ? n : NONE);
            }
            int over = ring[ring.length - 1] == 0 ? (int) Math.pow(ring[0], ring[2]) : ring[ring.length - 1];
            is("classes " + over, x -> x.classes(over, NONE, NONE), Check.NO_ELEMENT);
            is("code " + over, x -> x.code(over, 0), NONE);
        }
    }

    private void lengthsFarOff() {
        sentence("19, NoSuchElementException: no such n", busy(3, 1, 4, 5, 2));
        for (int n : new int[] {LEAST, -80, -5, -1, 0, 3, 6, 7, 9, 15, 41, 63, 64, 80, 81, 160, GREATEST}) {
            noElement("n " + n, x -> x.classes(n, NONE, NONE));
            noElement("n " + n + ", CLASS 0", x -> x.classes(n, 0, 0));
        }
        sentence("20, NONE (nothing changes): no such n", busy(3, 1, 4, 5, 2));
        for (int n : new int[] {LEAST, -80, -5, -1, 0, 3, 6, 7, 9, 15, 41, 63, 64, 80, 81, 160, GREATEST}) {
            none("n " + n, x -> x.code(n, 0));
            none("n " + n + ", CLASS 0", x -> x.code(n, 1));
        }
    }

    private void classesFound() {
        sentence("19, CLASSES of n", busy(2, 1, 6, 7, 3));
        int[][] due = {{0}, {1, 2, 4, 8, 16, 32}, {3, 6, 12, 24, 33, 48}, {5, 10, 17, 20, 34, 40}, {7, 14, 28, 35, 49, 56},
            {9, 18, 36}, {11, 22, 25, 37, 44, 50}, {13, 19, 26, 38, 41, 52}, {15, 30, 39, 51, 57, 60}, {21, 42},
            {23, 29, 43, 46, 53, 58}, {27, 45, 54}, {31, 47, 55, 59, 61, 62}};
        is("how many", x -> x.classes(63, NONE, NONE), 13);
        for (int i = 0; i < 13; i++) {
            int at = i;
            list("CLASS " + i, k -> x -> x.classes(63, at, k), due[i]);
        }
        sentence("19, CLASSES of n 1", x -> { });
        is("how many", x -> x.classes(1, NONE, NONE), 1);
        list("CLASS 0", k -> x -> x.classes(1, 0, k), 0);
    }

    private void mostClasses() {
        sentence("19, CLASSES of n 48, as many as there can be", 7, 1, 2);
        is("how many", x -> x.classes(48, NONE, NONE), 27);
        list("CLASS 26", k -> x -> x.classes(48, 26, k), 41, 47);
        list("CLASS 25", k -> x -> x.classes(48, 25, k), 40);
        noElement("CLASS 27", x -> x.classes(48, 27, NONE));
        sentence("20, the set has all of 27 CLASSES, and no 28th", busy(7, 1, 2, 48, 5));
        is("all", x -> x.code(48, (1 << 27) - 1), 0);
        is("CLASS 26 alone", x -> x.code(48, 1 << 26), 46);
        is("CLASS 25 alone", x -> x.code(48, 1 << 25), 47);
        for (int set : new int[] {1 << 27, (1 << 27) + 1, (1 << 28) - 1, 1 << 28, 1 << 30, GREATEST}) {
            none("" + set, x -> x.code(48, set));
        }
    }

    private void classesAsked() {
        sentence("19, NoSuchElementException: no such CLASS, k", busy(2, 2, 3, 7, 3));
        is("how many", x -> x.classes(7, NONE, NONE), 3);
        is("how many, k 99", x -> x.classes(7, NONE, 99), 3);
        is("the last CLASS", x -> x.classes(7, 2, NONE), 3);
        is("the last of it", x -> x.classes(7, 2, 2), 6);
        for (int i : new int[] {LEAST, -3, -2, 3, 4, 7, 30, 31, 32, GREATEST}) {
            noElement("CLASS " + i, x -> x.classes(7, i, NONE));
            noElement("CLASS " + i + ", k 0", x -> x.classes(7, i, 0));
        }
        for (int k : new int[] {LEAST, -2, 3, 4, 7, GREATEST}) {
            noElement("k " + k, x -> x.classes(7, 2, k));
        }
        noElement("k 1 of one", x -> x.classes(7, 0, 1));
    }

    private void setBelowNone() {
        sentence("20, NONE (nothing changes): the set is below 0", busy(2, 2, 3, 7, 3));
        for (int set : new int[] {LEAST, LEAST + 1, -8, -7, -2, -1}) {
            none("" + set, x -> x.code(7, set));
            none("" + set + ", n 1", x -> x.code(1, set));
        }
    }

    private void noSuchClass() {
        sentence("20, NONE (nothing changes): the set has no such CLASS", busy(2, 2, 3, 7, 3));
        for (int set : new int[] {8, 9, 15, 16, 32, 1 << 29, 1 << 30, GREATEST}) {
            none("" + set, x -> x.code(7, set));
        }
        none("CLASS 1 of n 1", x -> x.code(1, 2));
        none("CLASSES 0 and 1 of n 1", x -> x.code(1, 3));
        is("CLASS 0 of n 1", x -> x.code(1, 1), 0);
        is("no CLASS of n 1", x -> x.code(1, 0), 1);
        int[] sizes = {7, 6, 4, 3, 4, 3, 1, 0};
        row("CLASSES 0 to 2", i -> x -> x.code(7, i), sizes);
    }

    private void anotherCode() {
        for (int i = 0; i < 3; i++) {
            int n = i == 2 ? 1 : 7;
            int set = i == 0 ? 3 : 0;
            sentence("20, Another CODE (no WORD then)" + (i == 0 ? ", the same one" : ""), x -> {
                busy(2, 2, 3, 7, 3).make(x);
                x.code(n, set);
            });
            noElement("number", x -> x.number(0));
            noElement("rest", x -> x.rest(0));
            noElement("mend", x -> x.mend(0));
            noElement("nearest", x -> x.nearest(NONE));
            is("the tape stays", x -> x.count(10), 20);
            is("fault() stays", x -> x.fault(), 1);
            is("what was SAID stays", x -> x.said(0), '3');
            row("PLACES stay", j -> x -> x.put(j, 0), 1, 6, 11, 16, 21, 26, 31, 36);
        }
    }

    private void noClassAndAll() {
        sentence("3, MAKER of no CLASS: 1", 3, 2, 2);
        is("SIZE", x -> x.code(8, 0), 8);
        is("count 9", x -> x.count(9), 8);
        is("count 8", x -> x.count(8), 8);
        row("MAKER", i -> x -> x.coefficient(0, i), 1);
        row("CHECK", i -> x -> x.coefficient(1, i), 8, 0, 0, 0, 0, 0, 0, 0, 1);
        sentence("3, W, n 2: it is -1", 3, 2, 2);
        is("CLASS 0", x -> x.code(2, 1), 1);
        row("MAKER", i -> x -> x.coefficient(0, i), 8, 1);
        row("CHECK", i -> x -> x.coefficient(1, i), 1, 1);
        is("CLASS 1", x -> x.code(2, 2), 1);
        row("MAKER", i -> x -> x.coefficient(0, i), 1, 1);
        row("CHECK", i -> x -> x.coefficient(1, i), 8, 1);
        sentence("3, W, n Q - 1: it is GENERATOR", 7, 2, 1);
        is("CLASS 1", x -> x.code(6, 2), 5);
        row("MAKER", i -> x -> x.coefficient(0, i), 30, 1);
        is("CLASS 5", x -> x.code(6, 32), 5);
        row("MAKER", i -> x -> x.coefficient(0, i), 18, 1);
        sentence("3, CHECK of all CLASSES: 1", x -> {
            x.ring(3, 2, 2);
            x.code(8, (1 << 5) - 1);
        });
        is("SIZE", x -> x.count(9), 0);
        row("MAKER", i -> x -> x.coefficient(0, i), 8, 0, 0, 0, 0, 0, 0, 0, 1);
        row("CHECK", i -> x -> x.coefficient(1, i), 1);
        sentence("3, MAKER of all CLASSES of 63", x -> {
            x.ring(2, 2, 6);
            x.code(63, (1 << 13) - 1);
        });
        is("degree", x -> x.coefficient(0, NONE), 63);
        is("the highest", x -> x.coefficient(0, 63), 1);
        is("the lowest", x -> x.coefficient(0, 0), 3);
        is("between", x -> x.coefficient(0, 62), 0);
    }

    private void degrees() {
        sentence("21, NoSuchElementException: another which, i", busy(2, 2, 3, 7, 2));
        coefficients("MAKER", 0, 3, 1, 2, 1);
        coefficients("CHECK", 1, 1, 1, 3, 2, 1);
        for (int which : new int[] {LEAST, -2, -1, 2, 3, GREATEST}) {
            noElement("which " + which, x -> x.coefficient(which, 0));
            noElement("which " + which + ", degree", x -> x.coefficient(which, NONE));
        }
        sentence("21, i 0 to its degree, 0", x -> {
            x.ring(2, 2, 3);
            x.code(7, 7);
        });
        coefficients("CHECK", 1, 1);
        sentence("21, i 0 to its degree, 0, MAKER", x -> { });
        coefficients("MAKER", 0, 1);
        coefficients("CHECK", 1, 1, 1);
        sentence("21, i 0 to its degree, 63", 2, 1, 6);
        x.code(63, 0);
        is("degree", x -> x.coefficient(1, NONE), 63);
        is("the highest", x -> x.coefficient(1, 63), 1);
        is("behind it", x -> x.coefficient(1, 64), Check.NO_ELEMENT);
    }

    private void coefficients(String call, int which, int... due) {
        is(call + "'s degree", x -> x.coefficient(which, NONE), due.length - 1);
        row(call, i -> x -> x.coefficient(which, i), due);
        for (int i : new int[] {LEAST, -2, due.length, due.length + 1, 63, 64, GREATEST}) {
            noElement(call + " " + i, x -> x.coefficient(which, i));
        }
    }

    /** p, e, r, n, the CLASSES that are left out of the set, and SIZE. */
    private void coded(String told, int[] row) {
        sentence(told + row[0] + " " + row[1] + " " + row[2] + " n " + row[3] + " SIZE " + row[5], x -> {
            x.ring(row[0], row[1], row[2]);
            int all = x.classes(row[3], NONE, NONE);
            x.code(row[3], (1 << all) - 1 & ~row[4]);
            word(x, new int[row[3]]);
        });
        is("SIZE", x -> x.count(9), row[5]);
    }

    private void smallAtMost() {
        // M^SIZE: 65536 three times, then the greatest that there is below it for other M
        int[][] rows = {{2, 1, 6, 63, 0b0000000100111, 16}, {2, 2, 4, 15, 0b00110, 8}, {2, 4, 3, 7, 0b011, 4},
            {2, 1, 6, 63, 0b0000000100110, 15}, {2, 3, 4, 15, 0b00011, 5}, {3, 1, 4, 40, 0b0000000010110, 10},
            {5, 1, 2, 24, 0b1110, 6}, {7, 1, 2, 48, 0b111, 5}, {3, 2, 3, 26, 0b10000011, 5}, {7, 4, 1, 6, 1, 1},
            {7, 2, 1, 6, 3, 2}, {5, 4, 1, 4, 8, 1}, {3, 4, 1, 2, 3, 2}, {2, 2, 3, 7, 0b111, 7}, {2, 2, 3, 7, 0, 0}};
        for (int[] row : rows) {
            coded("3, SMALL: M^SIZE is 65536 at most, ", row);
            is("WORDS of WEIGHT 0", x -> x.weighing(false, 0), 1);
            is("WORDS of LEE 0", x -> x.weighing(true, 0), 1);
            is("lightest", x -> Math.min(1, x.lightest(false)), row[5] == 0 ? NONE : 1);
            is("nearest", x -> x.nearest(NONE), 0);
            long words = 0;
            for (int w = 0; w <= row[3]; w++) {
                words += x.weighing(false, w);
            }
            Check.same("how many WORDS", (int) words, (int) Math.pow(Math.pow(row[0], row[1]), row[5]));
        }
    }

    private void notSmall() {
        // the least M^SIZE over 65536 for each M, then those that come round in 32 or 64 bits
        int[][] rows = {{2, 1, 6, 63, 0b0001000100110, 17}, {2, 2, 4, 15, 0b00111, 9}, {2, 4, 3, 7, 0b110, 6},
            {2, 3, 4, 15, 0b01010, 6}, {3, 1, 4, 40, 0b0000000010111, 11}, {5, 1, 2, 24, 0b1111, 7},
            {7, 1, 2, 48, 0b1110, 6}, {3, 2, 3, 26, 0b110, 6}, {7, 4, 1, 6, 3, 2}, {7, 2, 1, 6, 7, 3}, {5, 4, 1, 4, 3, 2},
            {2, 1, 6, 63, 0b1111111111111, 63}, {2, 1, 6, 63, 0b1111111111110, 62}, {2, 2, 6, 63, 0b1111111111111, 63},
            {2, 1, 6, 63, 0b0001100011110, 32}, {2, 1, 6, 63, 0b0000100111110, 33}, {7, 4, 1, 6, 63, 6},
            {2, 4, 3, 7, 7, 7}, {2, 2, 4, 15, 31, 15}};
        for (int[] row : rows) {
            coded("22, NONE: it isn't SMALL, ", row);
            for (int w : new int[] {LEAST, -1, 0, 1, row[3], GREATEST}) {
                none("WEIGHT " + w, x -> x.weighing(false, w));
                none("LEE " + w, x -> x.weighing(true, w));
            }
            none("lightest WEIGHT", x -> x.lightest(false));
            none("lightest LEE", x -> x.lightest(true));
            none("nearest", x -> x.nearest(NONE));
            none("nearest, the first", x -> x.nearest(0));
            none("nearest, the last", x -> x.nearest(row[3] - 1));
            noElement("nearest, behind", x -> x.nearest(row[3]));
            noElement("nearest, ahead", x -> x.nearest(-2));
        }
    }

    private void weightsAsked() {
        sentence("22, NONE: w is below 0", busy(2, 2, 3, 7, 2));
        for (int w : new int[] {LEAST, -7, -2, -1}) {
            none("WEIGHT " + w, x -> x.weighing(false, w));
            none("LEE " + w, x -> x.weighing(true, w));
        }
        row("WEIGHT", i -> x -> x.weighing(false, i), 1, 0, 0, 7, 77, 42, 98, 31, 0, 0);
        row("LEE", i -> x -> x.weighing(true, i), 1, 0, 0, 0, 14, 56, 49, 16, 49, 56, 14, 0, 0, 0, 1, 0, 0);
        is("far", x -> x.weighing(false, GREATEST), 0);
        is("far, LEE", x -> x.weighing(true, GREATEST), 0);
        is("64", x -> x.weighing(false, 64), 0);
        is("7201, LEE", x -> x.weighing(true, 7201), 0);
    }

    private void weightsOfTheLeastCodes() {
        sentence("22, only 0", x -> {
            x.ring(2, 2, 3);
            x.code(7, 7);
        });
        row("WEIGHT", i -> x -> x.weighing(false, i), 1, 0, 0, 0, 0, 0, 0, 0, 0);
        row("LEE", i -> x -> x.weighing(true, i), 1, 0, 0, 0, 0, 0, 0, 0, 0);
        sentence("22, n 1, no CLASS", 7, 1, 1);
        row("WEIGHT", i -> x -> x.weighing(false, i), 1, 6, 0);
        row("LEE", i -> x -> x.weighing(true, i), 1, 2, 2, 2, 0);
        sentence("22, all 63 numbers alike", x -> {
            x.ring(2, 1, 6);
            x.code(63, 0b1111111111110);
        });
        is("WEIGHT 63", x -> x.weighing(false, 63), 1);
        is("WEIGHT 62", x -> x.weighing(false, 62), 0);
        is("LEE 63", x -> x.weighing(true, 63), 1);
        is("lightest", x -> x.lightest(false), 63);
        is("lightest LEE", x -> x.lightest(true), 63);
    }

    private void leeWeights() {
        sentence("3, LEE: the lesser of c and M - c, M even", 2, 3, 1);
        row("n 1", i -> x -> x.weighing(true, i), 1, 2, 2, 2, 1, 0);
        sentence("3, LEE: the lesser of c and M - c, M odd", 3, 2, 1);
        row("n 1", i -> x -> x.weighing(true, i), 1, 2, 2, 2, 2, 0);
        sentence("3, LEE, M 2", x -> { });
        row("n 1", i -> x -> x.weighing(true, i), 1, 1, 0);
        sentence("3, LEE, the greatest there is", x -> {
            x.ring(7, 4, 1);
            x.code(6, 62);
        });
        is("7200", x -> x.weighing(true, 7200), 2);
        is("7201", x -> x.weighing(true, 7201), 0);
        is("7199", x -> x.weighing(true, 7199), 0);
        is("7194", x -> x.weighing(true, 7194), 2);
        is("6", x -> x.weighing(true, 6), 2);
        is("lightest", x -> x.lightest(true), 6);
        sentence("3, LEE, the second CODE of that RING", x -> {
            x.ring(7, 4, 1);
            x.code(6, 62);
            x.weighing(true, 7200);
            x.code(1, 0);
        });
        is("1200", x -> x.weighing(true, 1200), 2);
        is("7200", x -> x.weighing(true, 7200), 0);
        is("1201", x -> x.weighing(true, 1201), 0);
    }

    private void lightestWords() {
        sentence("23, NONE: there is none such", busy(2, 2, 3, 7, 7));
        none("WEIGHT", x -> x.lightest(false));
        none("LEE", x -> x.lightest(true));
        sentence("23, the least", 2, 2, 3);
        int[] weights = {1, 2, 3, 4, 3, 4, 7, NONE};
        int[] lees = {1, 2, 4, 6, 4, 6, 7, NONE};
        for (int i = 0; i < 8; i++) {
            int set = i;
            is("code " + set, x -> x.code(7, set), new int[] {7, 6, 4, 3, 4, 3, 1, 0}[set]);
            is("WEIGHT " + set, x -> x.lightest(false), weights[set]);
            is("LEE " + set, x -> x.lightest(true), lees[set]);
        }
        sentence("23, n 1", x -> { });
        is("WEIGHT", x -> x.lightest(false), 1);
        is("LEE", x -> x.lightest(true), 1);
    }
}
