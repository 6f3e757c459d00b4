import com.sun.management.ThreadMXBean;
import java.lang.management.ManagementFactory;

/** The dearest calls, 128 of each kind on one object: what they make stays small, and they end soon. */
public final class RoomTest {
    private static final int CALLS = 128;
    private static final long MOST_BYTES_OF_NEW = 100_000;
    private static final long MOST_BYTES_A_CALL = 200;
    private static final long MOST_MILLIS = 60_000;

    private interface Step {
        void take(RootedRing x, int i);
    }

    private static long made() {
        return ((ThreadMXBean) ManagementFactory.getThreadMXBean()).getCurrentThreadAllocatedBytes();
    }

    private static void run(String what, int[] ring, int n, int set, Step step) {
        RootedRing x = new RootedRing();
        x.ring(ring[0], ring[1], ring[2]);
        x.code(n, set);
        step.take(x, 0);
        long start = System.currentTimeMillis();
        long before = made();
        for (int i = 0; i < CALLS; i++) {
            step.take(x, i);
        }
        long bytes = (made() - before) / CALLS;
        long millis = System.currentTimeMillis() - start;
        System.out.println(what + ": " + bytes + " bytes a call, " + millis + " ms for all");
        Check.same(what + " keeps its room", bytes <= MOST_BYTES_A_CALL ? 1 : 0, 1);
        Check.same(what + " ends soon", millis <= MOST_MILLIS ? 1 : 0, 1);
    }

    private static void feed(RootedRing x, String text) {
        for (int i = 0; i < text.length(); i += 20) {
            x.feed(four(text, i), four(text, i + 4), four(text, i + 8), four(text, i + 12), four(text, i + 16));
        }
    }

    private static int four(String text, int at) {
        int made = 0;
        for (int i = at; i < at + 4; i++) {
            made = made << 8 | (i < text.length() ? text.charAt(i) : ' ');
        }
        return made;
    }

    public static void main(String[] args) {
        int[] wide = {2, 2, 6};
        new RootedRing();
        long before = made();
        new RootedRing();
        long bytes = made() - before;
        System.out.println("a new object: " + bytes + " bytes");
        Check.same("a new object keeps its room", bytes <= MOST_BYTES_OF_NEW ? 1 : 0, 1);
        run("ring 2 2 6", wide, 1, 0, (x, i) -> x.ring(2, 2, 6));
        run("ring 5 1 5", wide, 1, 0, (x, i) -> x.ring(5, 1, 5));
        run("ring 7 1 4", wide, 1, 0, (x, i) -> x.ring(7, 1, 4));
        run("roots", wide, 1, 0, (x, i) -> x.roots(i % 2, 30, -1));
        run("roots 21", wide, 1, 0, (x, i) -> x.roots(i, 21, -1));
        run("zeros", wide, 1, 0, (x, i) -> x.zeros(7, -1));
        run("within", wide, 1, 0, (x, i) -> x.within(3, 0));
        run("units", wide, 1, 0, (x, i) -> x.units(9999));
        run("units 2 4 3", new int[] {2, 4, 3}, 1, 0, (x, i) -> x.units(8191));
        run("count 12", wide, 1, 0, (x, i) -> x.count(12));
        run("many norms", wide, 1, 0, (x, i) -> x.many(2, i));
        run("of", wide, 1, 0, (x, i) -> x.of(4095 - i, i % 9));
        run("classes", wide, 1, 0, (x, i) -> x.classes(63, 12, 0));
        run("code", wide, 1, 0, (x, i) -> x.code(63, i));
        // these CODES have 65536 WORDS of 63 numbers, of SIZE 16 (M 2) and 8 (M 4)
        int[] field = {2, 1, 6};
        int most = 0b1111111011000;
        run("weighing", field, 63, most, (x, i) -> {
            x.code(63, most);
            x.weighing(true, i);
        });
        run("lightest", wide, 63, 0, (x, i) -> {
            x.code(63, 0b1110111111101);
            x.lightest(true);
        });
        String text = "g" + "*t^9999".repeat(28);
        run("tell", wide, 1, 0, (x, i) -> {
            feed(x, text);
            x.tell(i % 8, text.length());
        });
        int[] mends = {7, 2, 2};
        run("word and nearest", mends, 48, (1 << 26) - 1, (x, i) -> {
            x.feed(i % 49, i % 48, 3, 1, 2);
            x.feed(i % 49, i % 48, 3, 1, 2);
            x.feed(i % 49, i % 48, 3, 1, 2);
            x.word();
            x.nearest(-1);
        });
        run("word and nearest of 65536", field, 63, most, (x, i) -> {
            for (int j = 0; j < 4; j++) {
                x.feed(0x01000101, 0x00010001 + (i % 2 << 8), 0x01000000, 1, 0x00010000);
            }
            x.word();
            x.nearest(-1);
        });
        run("say", wide, 1, 0, (x, i) -> {
            x.say(4095 - i);
            x.said(i % 30);
        });
        Check.end("RoomTest");
    }
}
