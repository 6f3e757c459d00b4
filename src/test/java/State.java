import java.util.ArrayList;
import java.util.List;

/** All that an object answers, call by call, less than 512 in all; asking takes its tape. */
final class State {
    private static final int NONE = RootedRing.NONE;

    private final List<String> calls = new ArrayList<>();
    private final List<Integer> answers = new ArrayList<>();

    State(RootedRing x) {
        for (int i = 0; i <= 12; i++) {
            int what = i;
            ask("count " + i, () -> x.count(what));
        }
        for (int i = 0; i <= 7; i++) {
            int at = i;
            ask("modulus " + i, () -> x.modulus(at));
        }
        ask("fault", x::fault);
        for (int i = 0; i <= 30; i++) {
            int at = i;
            ask("said " + i, () -> x.said(at));
        }
        askCode(x);
        askWord(x, x.count(8));
        for (int i = 0; i < 8; i++) {
            int place = i;
            int before = ask("place " + i, () -> x.put(place, 0));
            x.put(place, before);
        }
        int bytes = x.count(10);
        ask("tape's text", () -> x.tell(0, bytes));
        ask("tape's fault", x::fault);
    }

    private void askCode(RootedRing x) {
        for (int which = 0; which < 2; which++) {
            int a = which;
            int degree = ask("coefficient " + which, () -> x.coefficient(a, NONE));
            for (int i = 0; i <= degree; i++) {
                int at = i;
                ask("coefficient " + which + " " + i, () -> x.coefficient(a, at));
            }
        }
        ask("lightest", () -> x.lightest(false));
        ask("lightest LEE", () -> x.lightest(true));
        ask("weighing", () -> x.weighing(true, 2));
    }

    private void askWord(RootedRing x, int n) {
        for (int i = 0; i < n; i++) {
            int at = i;
            ask("number " + i, () -> x.number(at));
            ask("rest " + i, () -> x.rest(at));
            ask("nearest " + i, () -> x.nearest(at));
        }
        ask("nearest", () -> x.nearest(NONE));
        for (int i = 0; i < 3; i++) {
            int what = i;
            ask("mend " + i, () -> x.mend(what));
        }
    }

    private int ask(String call, Check.Call asked) {
        calls.add(call);
        answers.add(Check.outcome(asked));
        return answers.get(answers.size() - 1);
    }

    /** The first call that the other one answers otherwise, those left out that are told; null: there is none. */
    String difference(State other, List<String> but) {
        if (!calls.equals(other.calls)) {
            return "which calls there are";
        }
        for (int i = 0; i < calls.size(); i++) {
            if (!but.contains(calls.get(i)) && !answers.get(i).equals(other.answers.get(i))) {
                return calls.get(i) + " from " + Check.told(answers.get(i))
                    + " to " + Check.told(other.answers.get(i));
            }
        }
        return null;
    }
}
