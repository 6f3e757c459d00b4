import java.nio.charset.StandardCharsets;
import java.util.Arrays;

/** For each promise of the document: ordinary calls, the edges that it names, and what it refuses. */
public final class PromiseTest {
    private static final int NONE = RootedRing.NONE;

    private RootedRing x;
    private String promise = "";

    public static void main(String[] args) {
        PromiseTest test = new PromiseTest();
        test.rings();
        test.texts();
        test.faults();
        test.elements();
        test.logs();
        test.found();
        test.counted();
        test.codes();
        test.words();
        test.nearest();
        test.spoken();
        Check.end("PromiseTest");
    }

    private void begin(String told) {
        promise = told;
        x = new RootedRing();
    }

    private void begin(String told, int p, int e, int r) {
        begin(told);
        x.ring(p, e, r);
    }

    private void is(String call, Check.Call got, int due) {
        Check.is(promise + ": " + call, got, due);
    }

    private void no(String call, Check.Call got) {
        Check.noElement(promise + ": " + call, got);
    }

    private void noArgument(String call, Check.Call got) {
        Check.noArgument(promise + ": " + call, got);
    }

    /** The bytes, with 32 behind them to make up the twenties. */
    private int feed(byte... bytes) {
        int fed = 0;
        for (int i = 0; i == 0 || i < bytes.length; i += 20) {
            int[] f = new int[5];
            for (int j = 0; j < 20; j++) {
                f[j / 4] = f[j / 4] << 8 | (i + j < bytes.length ? bytes[i + j] & 255 : 32);
            }
            fed = x.feed(f[0], f[1], f[2], f[3], f[4]);
        }
        return fed;
    }

    private void tells(String text, int due, int place) {
        byte[] bytes = text.getBytes(StandardCharsets.ISO_8859_1);
        feed(bytes);
        is("tell of " + text, () -> x.tell(7, bytes.length), due);
        is("fault of " + text, x::fault, place);
        is("tape behind " + text, () -> x.count(10), 0);
    }

    private void tells(String text, int due) {
        tells(text, due, NONE);
        is("place of " + text, () -> x.put(7, 0), due);
    }

    private int word(int... numbers) {
        byte[] bytes = new byte[numbers.length];
        for (int i = 0; i < numbers.length; i++) {
            bytes[i] = (byte) numbers[i];
        }
        feed(bytes);
        return Check.outcome(x::word);
    }

    private void row(String call, java.util.function.IntFunction<Check.Call> got, int... due) {
        for (int i = 0; i < due.length; i++) {
            is(call + " " + i, got.apply(i), due[i]);
        }
        no(call + " behind", got.apply(due.length));
    }

    private void many(String call, java.util.function.IntFunction<Check.Call> got, int... due) {
        is(call + " in all", got.apply(NONE), due.length);
        no(call + " ahead", got.apply(-2));
        row(call, got, due);
    }

    private void rings() {
        begin("1");
        is("NONE", () -> RootedRing.NONE, -1);
        int[] due = {2, 1, 1, 2, 2, 2, 1, 1, 1, 1, 0, 1, 1};
        row("count", i -> () -> x.count(i), due);
        for (int i = 0; i < 8; i++) {
            int place = i;
            is("place " + i, () -> x.put(place, 0), 0);
        }

        begin("2");
        is("another RING", () -> x.ring(7, 4, 1), 2401);
        is("the same one", () -> x.ring(7, 4, 1), 2401);
        is("4096", () -> x.ring(2, 2, 6), 4096);
        int[][] none = {{0, 1, 1}, {1, 1, 1}, {4, 1, 1}, {6, 1, 1}, {9, 1, 1}, {11, 1, 1}, {-2, 1, 1}, {2, 0, 1},
            {2, 5, 1}, {2, 1, 0}, {2, 1, 7}, {2, 3, 5}, {3, 2, 4}, {5, 1, 6}, {7, 1, 5}, {7, 4, 6}, {2, -1, -1},
            {2, Integer.MAX_VALUE, 2}, {2, 1, Integer.MIN_VALUE}};
        x.put(3, 77);
        x.code(21, 6);
        word(new int[21]);
        for (int[] three : none) {
            is("none " + Arrays.toString(three), () -> x.ring(three[0], three[1], three[2]), NONE);
        }
        is("nothing changed", () -> x.count(5), 4096);
        is("places stay", () -> x.put(3, 77), 77);
        is("the CODE stays", () -> x.count(8), 21);
        is("the WORD stays", () -> x.number(20), 0);
        tells("2+", -11, 2);
        x.say(4095);
        feed();
        is("another one", () -> x.ring(2, 2, 6), 4096);
        is("places are 0", () -> x.put(3, 0), 0);
        is("the CODE goes", () -> x.count(8), 1);
        is("of no CLASS", () -> x.count(9), 1);
        no("the WORD goes", () -> x.number(0));
        is("the tape stays", () -> x.count(10), 20);
        is("fault() stays", x::fault, 2);
        is("what was SAID stays", () -> x.said(0), '3');
    }

    private void texts() {
        begin("3", 7, 4, 1);
        is("twenty", () -> x.feed(0, 0, 0, 0, 0), 20);
        x.tell(0, 0);
        x.feed(0x01020304, 0x05060708, 0x090a0b0c, 0x0d0e0f10, 0x11fffeff);
        is("n 6", () -> x.code(6, 0), 6);
        is("bytes are taken", x::word, 1);
        row("the highest first", i -> () -> x.number(i), 1, 2, 3, 4, 5, 6);
        for (int i = 1; i <= 10; i++) {
            int all = 20 * i;
            is("feed " + i, () -> x.feed(1, 2, 3, 4, 5), all);
        }
        is("no more than 200", () -> x.feed(1, 2, 3, 4, 5), NONE);
        is("none came", () -> x.count(10), 200);
        begin("3, below 0", 7, 4, 1);
        x.code(6, 0);
        x.feed(-1, -65536, 0, 0, 0);
        is("", x::word, 1);
        row("255 at most", i -> () -> x.number(i), 255, 255, 255, 255, 255, 255);

        begin("4", 3, 2, 1);
        tells("9999", 0);
        tells("0010", 1);
        tells("007", 7);
        tells("00000000000000000000000000000000000002", 2);
        tells("2-3-4", 4);
        tells("2-(3-4)", 3);
        tells("2+3*4", 5);
        tells("-2^2", 4);
        tells("-(2^2)", 5);
        tells("0^0", 1);
        tells("2^9999", 8);
        tells("t", 0);
        tells("g", 8);
        tells("p", 3);
        tells("i2", 5);
        tells("i2^2", 7);
        tells("r2", 8);
        tells(" \n1 \n+\n1 ", 2);
        tells("--------1", 1);
        tells("((((((((4))))))))", 4);
        tells("((((-(-(4))))))*((((((((2))))))))", 8);
        tells("--------1+--------1", 2);
        tells("ip", -2, NONE);
        tells("0*i3", -2, NONE);
        tells("(i(1-1))^0", -2, NONE);
        x.put(7, 5);
        feed((byte) 'i', (byte) 'p');
        is("refused", () -> x.tell(7, 2), -2);
        is("nothing else", () -> x.put(7, 5), 5);
        feed((byte) '#', (byte) '7', (byte) '+', (byte) '#', (byte) ' ', (byte) '0');
        is("as it was ahead", () -> x.tell(7, 6), 5);
        feed((byte) '1', (byte) '+');
        is("the first n bytes alone", () -> x.tell(0, 1), 1);
        is("the tape is empty", () -> x.count(10), 0);
        feed((byte) '4');
        noArgument("place 8", () -> x.tell(8, 1));
        noArgument("place -1", () -> x.tell(-1, 1));
        noArgument("not so many", () -> x.tell(0, 21));
        noArgument("below 0", () -> x.tell(0, -1));
        noArgument("far", () -> x.tell(0, Integer.MIN_VALUE));
        is("nothing changed", () -> x.count(10), 20);
        is("that", () -> x.tell(2, 20), 4);
        is("a PLACE has it", () -> x.put(2, 0), 4);
        begin("4, r 2", 2, 2, 2);
        tells("t", 4);
        tells("mt", 15);
        tells("m3*mt", 5);
        tells("m(3*t)*m3", 15);
        tells("mt^2", 4);
        tells("r(2+t)", 4);
        tells("p*t+p", 10);
        tells("t^3", 1);
    }

    private void faults() {
        begin("4 and 5, FAULTS", 3, 2, 1);
        is("none yet", x::fault, NONE);
        tells("", -11, 0);
        tells("   ", -11, 3);
        tells("2+ ", -11, 3);
        tells("2 2", -11, 2);
        tells("2t", -11, 1);
        tells("x", -11, 0);
        tells("1 \u00e9", -11, 2);
        tells("1\u0000", -11, 1);
        tells("1\t+1", -11, 1);
        tells("2^2^2", -11, 3);
        tells("2^-1", -11, 2);
        tells("2^(1)", -11, 2);
        tells("2^t", -11, 2);
        tells("#t", -11, 1);
        tells("#", -11, 1);
        tells("+1", -11, 0);
        tells("1*+1", -11, 2);
        tells("()", -11, 1);
        tells("(1", -11, 2);
        tells("(1 ", -11, 3);
        tells("1)", -11, 1);
        tells("(1))", -11, 3);
        tells("m", -11, 1);
        tells("i)", -11, 1);
        tells("1 10000", -11, 2);
        tells("10000", -12, 0);
        tells("1+ 10000)", -12, 3);
        tells("2^10000", -12, 2);
        tells("2^0009999", 8);
        tells("99999999999999999999", -12, 0);
        tells("4294967297", -12, 0);
        tells("# 8", -12, 2);
        tells("#007", 0);
        tells("#10000", -12, 1);
        tells("---------1", -13, 8);
        tells("(((((((((1", -13, 8);
        tells("(-m((-i( r1", -13, 9);
        tells("((((((((1(", -11, 9);
        tells("ip+(", -11, 4);
        tells("((((((((1))))))))+-------- -1", -13, 27);
        begin("5");
        is("none yet", x::fault, NONE);
        tells("1 +", -11, 3);
        noArgument("ahead of all", () -> x.tell(0, 5));
        is("stays behind that", x::fault, 3);
        tells("i0", -2, NONE);
        tells("))", -11, 0);
        tells("1", 1);
        is("it had none", x::fault, NONE);
    }

    private void elements() {
        begin("6", 3, 2, 1);
        is("what it had", () -> x.put(0, 8), 0);
        is("what it has", () -> x.put(0, 3), 8);
        is("another", () -> x.put(7, 3), 0);
        no("place 8", () -> x.put(8, 0));
        no("place -1", () -> x.put(-1, 0));
        no("9", () -> x.put(0, 9));
        no("-1", () -> x.put(0, -1));
        is("nothing changed", () -> x.put(0, 0), 3);

        begin("7", 3, 2, 3);
        x.code(26, 2);
        feed();
        row("count", i -> () -> x.count(i), 3, 2, 3, 9, 27, 729, 702, x.count(7), 26, 23, 20, 2, 78);
        is("GENERATOR's order", () -> x.of(x.count(7), 7), 26);
        is("GENERATOR is a ROOT", () -> x.of(x.count(7), 1), x.count(7));
        no("-1", () -> x.count(-1));
        begin("7, e 1", 5, 1, 5);
        is("12", () -> x.count(12), 3124);
        begin("7, r 6", 2, 2, 6);
        is("11", () -> x.count(11), 4);
        begin("7, p 2", 2, 4, 1);
        is("12", () -> x.count(12), 4);

        begin("8", 2, 2, 3);
        row("x^3+2x^2+x+3", i -> () -> x.modulus(i), 3, 1, 2, 1);
        no("-1", () -> x.modulus(-1));
        begin("8, p 3", 3, 1, 2);
        row("t^2+1", i -> () -> x.modulus(i), 1, 0, 1);
        begin("8, r 1", 7, 3, 1);
        row("t", i -> () -> x.modulus(i), 0, 1);

        begin("9", 2, 2, 2);
        is("digit by digit", () -> x.element(0, 7, 14), 1);
        is("less", () -> x.element(1, 0, 6), 14);
        is("times", () -> x.element(2, 4, 4), 15);
        is("by", () -> x.element(3, 4, 15), 15);
        is("by itself", () -> x.element(3, 7, 7), 1);
        is("0 by", () -> x.element(3, 0, 7), 0);
        no("by no UNIT", () -> x.element(3, 1, 2));
        no("by 0", () -> x.element(3, 0, 0));
        no("how 4", () -> x.element(4, 1, 1));
        no("how -1", () -> x.element(-1, 1, 1));
        no("no ELEMENT", () -> x.element(0, 16, 1));
        no("no ELEMENT either", () -> x.element(0, 1, -1));

        begin("10", 2, 2, 2);
        row("of t", i -> () -> x.of(4, i), 0, 4, 15, 3, 1, 2, 1, 3, 15);
        row("of 1 + t", i -> () -> x.of(5, i), 0, 15, 12, 1, 1, 2, 3, 6, 12);
        row("of 2 t", i -> () -> x.of(8, i), 1, 0, 10, 2, 0, 2, NONE, NONE, NONE);
        row("of 0", i -> () -> x.of(0, i), 2, 0, 0, 0, 0, 1, NONE, NONE, NONE);
        row("of 1", i -> () -> x.of(1, i), 0, 1, 1, 2, 1, 1, 1, 1, 1);
        no("-1", () -> x.of(0, -1));
        no("no ELEMENT", () -> x.of(16, 0));
        no("-1", () -> x.of(-1, 0));
        no("no ELEMENT, another what", () -> x.of(16, 9));
    }

    private void logs() {
        begin("11", 2, 2, 2);
        is("5, 0", () -> x.digit(5, 0), 2);
        is("5, 1", () -> x.digit(5, 1), 2);
        is("4, 1", () -> x.digit(4, 1), NONE);
        is("8, 0", () -> x.digit(8, 0), NONE);
        is("8, 1", () -> x.digit(8, 1), 1);
        is("3, 1", () -> x.digit(3, 1), 0);
        no("DIGIT 2", () -> x.digit(5, 2));
        no("DIGIT -1", () -> x.digit(5, -1));
        no("16", () -> x.digit(16, 0));
        no("-1", () -> x.digit(-1, 0));
        begin("11, e 1", 3, 1, 1);
        no("DIGIT 1", () -> x.digit(2, 1));

        begin("12", 2, 2, 2);
        is("5", () -> x.whole(2, 2, NONE, NONE), 5);
        is("0", () -> x.whole(NONE, NONE, NONE, NONE), 0);
        is("3", () -> x.whole(0, 0, NONE, NONE), 3);
        is("2t", () -> x.whole(NONE, 1, NONE, NONE), 8);
        no("Q - 1", () -> x.whole(3, NONE, NONE, NONE));
        no("-2", () -> x.whole(NONE, -2, NONE, NONE));
        no("from e on", () -> x.whole(NONE, NONE, 0, NONE));
        no("the last", () -> x.whole(NONE, NONE, NONE, 0));
        begin("12, e 4", 2, 4, 1);
        is("15", () -> x.whole(0, 0, 0, 0), 15);
        is("8", () -> x.whole(NONE, NONE, NONE, 0), 8);

        begin("13", 2, 2, 2);
        is("0, 0", () -> x.sum(0, 0), NONE);
        is("0, 1", () -> x.sum(0, 1), 0);
        is("2, 0", () -> x.sum(2, 0), 1);
        no("k 3", () -> x.sum(3, 0));
        no("k -1", () -> x.sum(-1, 0));
        no("i 2", () -> x.sum(0, 2));
        no("i -1", () -> x.sum(0, -1));
        begin("13, Q 2");
        is("0, 0", () -> x.sum(0, 0), NONE);
        no("k 1", () -> x.sum(1, 0));
    }

    private void found() {
        begin("14", 3, 2, 1);
        many("of 1", i -> () -> x.roots(1, 2, i), 1, 8);
        many("of 0", i -> () -> x.roots(0, 2, i), 0, 3, 6);
        many("of 2", i -> () -> x.roots(2, 2, i));
        many("itself", i -> () -> x.roots(6, 1, i), 6);
        many("of 1, 30", i -> () -> x.roots(1, 30, i), 1, 2, 4, 5, 7, 8);
        no("n 0", () -> x.roots(1, 0, NONE));
        no("n 31", () -> x.roots(1, 31, NONE));
        no("9", () -> x.roots(9, 1, NONE));
        no("-1", () -> x.roots(-1, 1, NONE));

        begin("15", 3, 2, 1);
        many("0 alone", i -> () -> x.zeros(0, i), 0, 1, 2, 3, 4, 5, 6, 7, 8);
        x.put(0, 3);
        many("3", i -> () -> x.zeros(0, i));
        many("3 and 0 y", i -> () -> x.zeros(1, i));
        x.put(0, 0);
        x.put(1, 3);
        x.put(7, 1);
        many("3 y", i -> () -> x.zeros(1, i), 0, 3, 6);
        many("3 y and y^7", i -> () -> x.zeros(7, i), 0, 3, 6);
        x.put(1, 8);
        x.put(7, 0);
        x.put(2, 1);
        many("y^2 less y", i -> () -> x.zeros(2, i), 0, 1);
        no("n 8", () -> x.zeros(8, NONE));
        no("n -1", () -> x.zeros(-1, NONE));

        begin("16", 2, 2, 2);
        many("d 1", i -> () -> x.within(1, i), 0, 1, 2, 3);
        is("d 2", () -> x.within(2, NONE), 16);
        is("d 2, the last", () -> x.within(2, 15), 15);
        no("d 0", () -> x.within(0, NONE));
        no("d 3", () -> x.within(3, NONE));
        no("d -1", () -> x.within(-1, NONE));
        begin("16, r 6", 2, 1, 6);
        is("d 2", () -> x.within(2, NONE), 4);
        is("d 3", () -> x.within(3, NONE), 8);
        no("d 4", () -> x.within(4, NONE));
    }

    private void counted() {
        begin("17", 3, 2, 1);
        is("1", () -> x.units(1), 1);
        is("2", () -> x.units(2), 2);
        is("3", () -> x.units(3), 3);
        is("4", () -> x.units(4), 2);
        is("6", () -> x.units(6), 6);
        is("9999", () -> x.units(9999), 3);
        no("0", () -> x.units(0));
        no("10000", () -> x.units(10000));
        no("-1", () -> x.units(-1));
        begin("17, p 2", 2, 3, 1);
        is("2", () -> x.units(2), 4);

        begin("18", 2, 2, 2);
        row("LEVEL, in all", i -> () -> i < 4 ? x.many(0, i) : x.many(4, 0), 12, 3, 1, 0);
        row("TRACE", i -> () -> i < 5 ? x.many(1, i) : x.many(-1, 0), 4, 4, 4, 4, 0);
        row("NORM", i -> () -> i < 5 ? x.many(2, i) : x.many(2, -1), 4, 6, 0, 6, 0);
        row("MOVED", i -> () -> i < 5 ? x.many(3, i) : x.many(3, -1), 16, 4, 16, 4, 16);
        is("MOVED often", () -> x.many(3, Integer.MAX_VALUE), 4);
        is("no such TRACE", () -> x.many(1, Integer.MAX_VALUE), 0);
        is("no such LEVEL", () -> x.many(0, Integer.MAX_VALUE), 0);
        no("LEVEL below 0", () -> x.many(0, -1));
        no("TRACE below 0", () -> x.many(1, -1));
        no("far below", () -> x.many(3, Integer.MIN_VALUE));
    }

    private void codes() {
        begin("19", 2, 2, 3);
        is("of 7", () -> x.classes(7, NONE, -9), 3);
        many("0", k -> () -> x.classes(7, 0, k), 0);
        many("1", k -> () -> x.classes(7, 1, k), 1, 2, 4);
        many("2", k -> () -> x.classes(7, 2, k), 3, 5, 6);
        many("of 1", k -> () -> x.classes(1, 0, k), 0);
        no("CLASS 3", () -> x.classes(7, 3, NONE));
        no("CLASS -2", () -> x.classes(7, -2, NONE));
        no("n 3", () -> x.classes(3, NONE, NONE));
        no("n 14", () -> x.classes(14, NONE, NONE));
        no("n 0", () -> x.classes(0, NONE, NONE));
        no("n -7", () -> x.classes(-7, NONE, NONE));
        begin("19, n over 63", 2, 1, 6);
        is("n 63", () -> x.classes(63, NONE, 0), 13);
        begin("19, n over 63", 5, 1, 5);
        no("n 71", () -> x.classes(71, NONE, 0));

        begin("20", 2, 2, 3);
        is("CLASS 1", () -> x.code(7, 2), 4);
        is("CLASSES 0 and 1", () -> x.code(7, 3), 3);
        word(0, 0, 0, 0, 0, 0, 0);
        is("no such n", () -> x.code(3, 0), NONE);
        is("n 0", () -> x.code(0, 0), NONE);
        is("below 0", () -> x.code(7, -1), NONE);
        is("least", () -> x.code(7, Integer.MIN_VALUE), NONE);
        is("no such CLASS", () -> x.code(7, 8), NONE);
        is("no such CLASS with one", () -> x.code(7, 9), NONE);
        is("CLASS 30", () -> x.code(7, 1 << 30), NONE);
        is("nothing changed", () -> x.count(9), 3);
        is("the WORD stays", () -> x.number(0), 0);
        is("all", () -> x.code(7, 7), 0);
        no("no WORD then", () -> x.number(0));
        is("none", () -> x.code(7, 0), 7);

        begin("21", 2, 2, 3);
        is("MAKER of no CLASS", () -> x.coefficient(0, NONE), 0);
        row("MAKER of no CLASS", i -> () -> x.coefficient(0, i), 1);
        row("CHECK of no CLASS", i -> () -> x.coefficient(1, i), 3, 1);
        x.code(7, 2);
        is("MAKER's degree", () -> x.coefficient(0, NONE), 3);
        row("MAKER", i -> () -> x.coefficient(0, i), 3, 1, 2, 1);
        is("CHECK's degree", () -> x.coefficient(1, NONE), 4);
        row("CHECK", i -> () -> x.coefficient(1, i), 1, 1, 3, 2, 1);
        x.code(7, 7);
        row("all", i -> () -> x.coefficient(0, i), 3, 0, 0, 0, 0, 0, 0, 1);
        no("which 2", () -> x.coefficient(2, 0));
        no("which -1", () -> x.coefficient(-1, NONE));
        no("i -2", () -> x.coefficient(0, -2));

        begin("22", 2, 2, 3);
        x.code(7, 2);
        int[] weights = {1, 0, 0, 7, 77, 42, 98, 31, 0, 0};
        int[] lees = {1, 0, 0, 0, 14, 56, 49, 16, 49, 56, 14, 0, 0, 0, 1, 0};
        for (int i = 0; i < lees.length; i++) {
            int w = i;
            is("WEIGHT " + i, () -> x.weighing(false, w), i < weights.length ? weights[i] : 0);
            is("LEE " + i, () -> x.weighing(true, w), lees[i]);
        }
        is("far", () -> x.weighing(true, Integer.MAX_VALUE), 0);
        is("below 0", () -> x.weighing(true, -1), NONE);
        is("far below 0", () -> x.weighing(false, Integer.MIN_VALUE), NONE);
        x.code(7, 1);
        is("4^6", () -> x.weighing(false, 0), 1);
        x.code(7, 0);
        is("all WORDS", () -> x.weighing(false, 7), 2187);
        x.code(7, 7);
        is("only 0", () -> x.weighing(false, 0), 1);
        is("no other", () -> x.weighing(false, 1), 0);
        begin("22, SMALL at most", 2, 2, 4);
        is("4^8", () -> x.code(15, 0b00101), 10);
        is("4^10", () -> x.weighing(false, 0), NONE);
        is("4^8", () -> x.code(15, 0b00011), 10);
        is("4^8", () -> x.code(15, 0b11001), 8);
        is("4^8", () -> x.weighing(false, 0), 1);
        begin("22, the greatest LEE", 7, 4, 1);
        is("X - 1 over all others", () -> x.code(6, 62), 1);
        is("1200 six times", () -> x.weighing(true, 7200), 2);
        is("behind it", () -> x.weighing(true, 7201), 0);

        begin("23", 2, 2, 3);
        x.code(7, 2);
        is("WEIGHT", () -> x.lightest(false), 3);
        is("LEE", () -> x.lightest(true), 4);
        x.code(7, 3);
        is("WEIGHT", () -> x.lightest(false), 4);
        is("LEE", () -> x.lightest(true), 6);
        x.code(7, 7);
        is("only 0", () -> x.lightest(false), NONE);
        is("only 0, LEE", () -> x.lightest(true), NONE);
        x.ring(2, 2, 4);
        x.code(15, 0);
        is("not SMALL", () -> x.lightest(false), NONE);
        is("not SMALL, LEE", () -> x.lightest(true), NONE);
    }

    private void words() {
        begin("24", 2, 2, 3);
        x.code(7, 2);
        noArgument("no tape", x::word);
        is("MAKER", () -> word(3, 1, 2, 1, 0, 0, 0), 1);
        is("the tape is empty", () -> x.count(10), 0);
        is("MAKER moved on", () -> word(2, 1, 0, 0, 0, 3, 1), 1);
        is("twice MAKER", () -> word(2, 2, 0, 2, 0, 0, 0), 1);
        is("0", () -> word(0, 0, 0, 0, 0, 0, 0), 1);
        is("OFF", () -> word(3, 1, 2, 1, 0, 0, 1), 0);
        is("4 in it", () -> word(0, 0, 4, 0, 0, 0, 0), NONE);
        is("the tape is empty then", () -> x.count(10), 0);
        is("the last", () -> word(0, 0, 0, 0, 0, 0, 255), NONE);
        is("the latest one stays", () -> x.number(6), 1);
        noArgument("no tape again", x::word);
        is("nothing changed", () -> x.number(6), 1);
        is("4 behind it", () -> word(0, 0, 0, 0, 0, 0, 0, 4), 1);
        x.ring(2, 1, 6);
        x.code(63, 2);
        for (int i = 20; i <= 60; i += 20) {
            x.feed(0, 0, 0, 0, 0);
        }
        noArgument("60 of 63", x::word);
        is("the tape stays", () -> x.count(10), 60);
        x.feed(0, 0, 0, 0, 0);
        is("80", x::word, 1);
        begin("24, M over 255", 7, 3, 1);
        is("255", () -> word(255), 1);

        begin("25", 2, 2, 3);
        no("no WORD", () -> x.number(0));
        x.code(7, 2);
        word(3, 1, 2, 1, 0, 2, 3);
        row("number", i -> () -> x.number(i), 3, 1, 2, 1, 0, 2, 3);
        no("-1", () -> x.number(-1));
        x.code(7, 2);
        no("another CODE", () -> x.number(0));

        begin("26", 2, 2, 3);
        x.code(7, 2);
        no("no WORD", () -> x.rest(0));
        word(0, 0, 0, 1, 0, 0, 0);
        row("X^3", i -> () -> x.rest(i), 1, 3, 2);
        word(0, 0, 0, 0, 0, 0, 1);
        row("X^6", i -> () -> x.rest(i), 1, 2, 1);
        word(3, 1, 2, 1, 0, 0, 0);
        row("in the CODE", i -> () -> x.rest(i), 0, 0, 0);
        no("-1", () -> x.rest(-1));
        x.code(7, 0);
        word(1, 2, 3, 1, 2, 3, 1);
        row("no CLASS", i -> () -> x.rest(i));
        x.code(7, 7);
        word(1, 2, 3, 1, 2, 3, 1);
        row("all CLASSES", i -> () -> x.rest(i), 1, 2, 3, 1, 2, 3, 1);

        begin("27", 2, 2, 3);
        x.code(7, 2);
        no("no WORD", () -> x.mend(0));
        word(3, 1, 2, 1, 0, 0, 0);
        row("in the CODE", i -> () -> x.mend(i), 0, NONE, NONE);
        word(3, 1, 2, 1, 0, 2, 0);
        row("one way", i -> () -> x.mend(i), 1, 5, 2);
        word(3, 1, 2, 0, 0, 0, 0);
        row("to add 1", i -> () -> x.mend(i), 1, 3, 1);
        word(0, 0, 0, 0, 0, 2, 1);
        row("none", i -> () -> x.mend(i), 0, NONE, NONE);
        no("what -1", () -> x.mend(-1));
        x.code(7, 0);
        word(3, 1, 2, 1, 0, 0, 0);
        row("no CLASS", i -> () -> x.mend(i), 0, NONE, NONE);
        x.code(7, 1);
        word(3, 1, 2, 1, 0, 0, 0);
        row("anywhere", i -> () -> x.mend(i), 7, 0, 1);
        x.ring(2, 2, 3);
        no("another RING", () -> x.mend(0));
    }

    private void nearest() {
        begin("28", 2, 2, 3);
        no("no WORD", () -> x.nearest(NONE));
        x.code(7, 3);
        word(1, 2, 3, 1, 1, 0, 0);
        is("in the CODE", () -> x.nearest(NONE), 0);
        row("itself", i -> () -> x.nearest(i), 1, 2, 3, 1, 1, 0, 0);
        word(1, 2, 0, 1, 1, 0, 0);
        is("one off", () -> x.nearest(NONE), 1);
        row("one off", i -> () -> x.nearest(i), 1, 2, 3, 1, 1, 0, 0);
        no("-2", () -> x.nearest(-2));
        x.code(7, 1);
        word(3, 1, 2, 1, 0, 0, 0);
        is("of many ways", () -> x.nearest(NONE), 1);
        row("the first", i -> () -> x.nearest(i), 0, 1, 2, 1, 0, 0, 0);
        x.code(7, 7);
        word(3, 1, 2, 1, 0, 0, 1);
        is("only 0", () -> x.nearest(NONE), 5);
        is("0", () -> x.nearest(0), 0);
        x.ring(2, 2, 4);
        x.code(15, 0);
        no("not SMALL, no WORD", () -> x.nearest(0));
        word(new int[15]);
        is("not SMALL", () -> x.nearest(NONE), NONE);
        is("not SMALL, its number", () -> x.nearest(14), NONE);
        no("not SMALL, no such number", () -> x.nearest(15));
        x.ring(2, 1, 6);
        x.code(63, (1 << 13) - 1);
        int[] ones = new int[63];
        Arrays.fill(ones, 1);
        word(ones);
        is("all 63 off", () -> x.nearest(NONE), 63);
        is("all 63 off, the last", () -> x.nearest(62), 0);
        x.code(63, 0);
        is("CHECK of 63", () -> x.coefficient(1, 63), 1);
    }

    private void says(int element, String due) {
        is("say " + element, () -> x.say(element), due.length());
        for (int i = 0; i <= due.length(); i++) {
            int at = i;
            is("said " + element + " " + i, () -> x.said(at), i < due.length() ? due.charAt(i) : NONE);
        }
    }

    private void spoken() {
        begin("29", 2, 2, 6);
        is("29 bytes", () -> x.say(4095), 29);
        says(4095, "3*t^5+3*t^4+3*t^3+3*t^2+3*t+3");
        says(0, "0");
        says(1, "1");
        says(3, "3");
        says(4, "t");
        says(8, "2*t");
        says(5, "t+1");
        says(16, "t^2");
        says(1024 + 12, "t^5+3*t");
        no("no ELEMENT", () -> x.say(4096));
        no("-1", () -> x.say(-1));
        is("what was SAID stays", () -> x.said(0), 't');
        x.ring(7, 4, 1);
        says(2400, "2400");
        says(1001, "1001");
        says(70, "70");
        x.ring(7, 2, 2);
        says(2400, "48*t+48");
        says(49 * 10 + 1, "10*t+1");

        begin("30");
        is("nothing was SAID", () -> x.said(0), NONE);
        x.ring(2, 2, 2);
        x.say(7);
        is("ahead", () -> x.said(-1), NONE);
        is("t", () -> x.said(0), 't');
        is("3", () -> x.said(2), '3');
        is("behind", () -> x.said(3), NONE);
        is("far", () -> x.said(Integer.MAX_VALUE), NONE);
        is("far ahead", () -> x.said(Integer.MIN_VALUE), NONE);
        x.ring(3, 1, 1);
        is("as it was then", () -> x.said(2), '3');
        x.say(2);
        is("the latest", () -> x.said(0), '2');
        is("it alone", () -> x.said(1), NONE);
    }
}
