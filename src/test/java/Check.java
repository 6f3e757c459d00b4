import java.util.NoSuchElementException;

/** Counts what was asked, tells what was answered wrongly. */
final class Check {
    interface Call {
        int run();
    }

    static final int NO_ELEMENT = Integer.MIN_VALUE;
    static final int NO_ARGUMENT = Integer.MIN_VALUE + 1;
    static final int OTHER = Integer.MIN_VALUE + 2;

    private static int asked = 0;
    private static int wrong = 0;
    private static final int MOST_TOLD = 40;
    private static final long MOST_MILLIS = 15 * 60 * 1000;

    static {
        Thread guard = new Thread(Check::endLate);
        guard.setDaemon(true);
        guard.start();
    }

    private Check() {
    }

    /** A call that does not end is wrong too. */
    private static void endLate() {
        try {
            Thread.sleep(MOST_MILLIS);
        } catch (InterruptedException e) {
            return;
        }
        System.out.println("no end after " + asked + " asked");
        Runtime.getRuntime().halt(1);
    }

    /** What a call answers, its exceptions too. */
    static int outcome(Call call) {
        try {
            return call.run();
        } catch (NoSuchElementException e) {
            return e.getClass() == NoSuchElementException.class ? NO_ELEMENT : OTHER;
        } catch (IllegalArgumentException e) {
            return e.getClass() == IllegalArgumentException.class ? NO_ARGUMENT : OTHER;
        } catch (RuntimeException e) {
            e.printStackTrace(System.out);
            return OTHER;
        }
    }

    static void same(String what, int got, int due) {
        asked++;
        if (got != due) {
            wrong++;
            if (wrong <= MOST_TOLD) {
                System.out.println(what + ": answered " + told(got) + ", due is " + told(due));
            }
        }
    }

    static void is(String what, Call call, int due) {
        same(what, outcome(call), due);
    }

    static void noElement(String what, Call call) {
        same(what, outcome(call), NO_ELEMENT);
    }

    static void noArgument(String what, Call call) {
        same(what, outcome(call), NO_ARGUMENT);
    }

    static boolean anyWrong() {
        return wrong > 0;
    }

    static String told(int answer) {
        return answer == NO_ELEMENT ? "NoSuchElementException" : answer == NO_ARGUMENT ? "IllegalArgumentException"
            : answer == OTHER ? "another exception" : "" + answer;
    }

    static void end(String name) {
        System.out.println(name + ": " + asked + " asked, " + wrong + " wrong");
        System.exit(wrong == 0 && asked > 0 ? 0 : 1);
    }
}
