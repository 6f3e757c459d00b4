import java.nio.charset.StandardCharsets;
import java.util.List;
import java.util.function.IntFunction;

/** What the tests of the document's edges share: one sentence at a time, with objects of its own. */
abstract class Edge {
    static final int NONE = RootedRing.NONE;
    static final int LEAST = Integer.MIN_VALUE;
    static final int GREATEST = Integer.MAX_VALUE;

    /** Calls that come ahead of what is asked. */
    interface Ahead {
        void make(RootedRing x);
    }

    interface Asked {
        int of(RootedRing x);
    }

    RootedRing x = new RootedRing();
    private String words = "";
    private Ahead ahead = x -> { };
    private State untouched = null;

    /** From here on it is this sentence that is tested, on a new object behind these calls. */
    final void sentence(String told, Ahead calls) {
        words = told;
        ahead = calls;
        untouched = null;
        x = made();
    }

    final void sentence(String told, int p, int e, int r) {
        sentence(told, x -> x.ring(p, e, r));
    }

    final RootedRing made() {
        RootedRing x = new RootedRing();
        ahead.make(x);
        return x;
    }

    final void is(String call, Asked asked, int due) {
        Check.is(words + ": " + call, () -> asked.of(x), due);
    }

    /** From 0 on. */
    final void row(String call, IntFunction<Asked> asked, int... due) {
        for (int i = 0; i < due.length; i++) {
            is(call + " " + i, asked.apply(i), due[i]);
        }
    }

    /** How many by NONE, then each of them; there are none ahead of these and behind. */
    final void list(String call, IntFunction<Asked> asked, int... due) {
        is(call + ", how many", asked.apply(NONE), due.length);
        row(call, asked, due);
        noElement(call + " behind", asked.apply(due.length));
        noElement(call + " far behind", asked.apply(GREATEST));
        noElement(call + " ahead", asked.apply(-2));
        noElement(call + " far ahead", asked.apply(LEAST));
    }

    /** On an object of its own: what is answered, and that nothing changes but what these calls tell. */
    final void keeps(String call, Asked asked, int due, String... but) {
        RootedRing tried = made();
        Check.is(words + ": " + call, () -> asked.of(tried), due);
        untouched = untouched == null ? new State(made()) : untouched;
        String changed = untouched.difference(new State(tried), List.of(but));
        Check.same(words + ": " + call + " changes " + changed, changed == null ? 0 : 1, 0);
    }

    final void none(String call, Asked asked) {
        keeps(call, asked, NONE);
    }

    final void noElement(String call, Asked asked) {
        keeps(call, asked, Check.NO_ELEMENT);
    }

    final void noArgument(String call, Asked asked) {
        keeps(call, asked, Check.NO_ARGUMENT);
    }

    /** Text and what fills the last twenty. */
    static void feed(RootedRing x, String text, char fill) {
        byte[] bytes = text.getBytes(StandardCharsets.ISO_8859_1);
        for (int i = 0; i < bytes.length; i += 20) {
            int[] f = new int[5];
            for (int j = 0; j < 20; j++) {
                f[j / 4] = f[j / 4] << 8 | (i + j < bytes.length ? bytes[i + j] & 255 : fill);
            }
            x.feed(f[0], f[1], f[2], f[3], f[4]);
        }
    }

    /** What word() answers of these numbers. */
    static int word(RootedRing x, int... numbers) {
        StringBuilder bytes = new StringBuilder();
        for (int number : numbers) {
            bytes.append((char) number);
        }
        feed(x, bytes.toString(), (char) 255);
        return x.word();
    }

    /** Numbers that are 0 but for one. */
    static int[] one(int n, int i, int c) {
        int[] row = new int[n];
        row[i] = c;
        return row;
    }

    /** A RING, a CODE and a WORD, with something in each PLACE, on the tape, in fault() and in what was SAID. */
    static Ahead busy(int p, int e, int r, int n, int set) {
        return x -> {
            x.ring(p, e, r);
            x.code(n, set);
            for (int i = 0; i < 8; i++) {
                x.put(i, place(x, i));
            }
            int[] numbers = new int[n];
            for (int i = 0; i < n; i++) {
                numbers[i] = Math.min(255, (i * i + 1) % x.count(3));
            }
            word(x, numbers);
            feed(x, "1)", ' ');
            x.tell(0, 2);
            x.say(x.count(5) - 1);
            feed(x, "#3+1", ' ');
        };
    }

    /** What a PLACE has then. */
    static int place(RootedRing x, int i) {
        return (5 * i + 1) % x.count(5);
    }
}
