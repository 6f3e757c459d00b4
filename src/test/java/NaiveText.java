import java.util.ArrayDeque;
import java.util.Deque;
import java.util.List;

/** An EXPR read by what may stand behind what, with a stack of what is open, and worked out on the way. */
final class NaiveText {
    private enum Due { ATOM, PLACE, EXPONENT, BEHIND_ATOM, BEHIND_FACTOR }

    /** What is open: by which sign, and the sum and the product so far in it. */
    private static final class Open {
        final int sign;
        int total = 0;
        int toAdd = 1;
        int product = 1;

        Open(int sign) {
            this.sign = sign;
        }
    }

    int fault = 0;
    int faultPlace = Naive.NONE;
    boolean refused = false;
    int value = 0;
    private final Naive naive;
    private final List<Integer> text;
    private final Deque<Open> open = new ArrayDeque<>();
    private Due due = Due.ATOM;
    private int factor = 0;

    NaiveText(Naive naive, List<Integer> text) {
        this.naive = naive;
        this.text = text;
    }

    void run() {
        open.push(new Open(0));
        int i = 0;
        while (fault == 0 && i < text.size()) {
            int sign = text.get(i);
            int first = i;
            i++;
            if (sign == 32 || sign == 10) {
                continue;
            }
            if (Character.isDigit(sign) && sign < 128) {
                StringBuilder figures = new StringBuilder();
                figures.append((char) sign);
                while (i < text.size() && text.get(i) >= '0' && text.get(i) <= '9') {
                    figures.append((char) (int) text.get(i));
                    i++;
                }
                fault = number(new java.math.BigInteger(figures.toString()));
            } else {
                fault = other(sign);
            }
            faultPlace = fault > 0 ? first : Naive.NONE;
        }
        boolean ended = due == Due.BEHIND_ATOM || due == Due.BEHIND_FACTOR;
        if (fault == 0 && !(ended && open.size() == 1)) {
            fault = 1;
            faultPlace = text.size();
        }
        if (fault == 0) {
            foldSum();
            value = open.peek().total;
        }
    }

    private int number(java.math.BigInteger number) {
        if (due != Due.ATOM && due != Due.PLACE && due != Due.EXPONENT) {
            return 1;
        }
        if (number.compareTo(java.math.BigInteger.valueOf(due == Due.PLACE ? 7 : 9999)) > 0) {
            return 2;
        }
        int n = number.intValue();
        if (due == Due.EXPONENT) {
            factor = naive.told.power(factor, n);
            due = Due.BEHIND_FACTOR;
        } else {
            atomEnds(due == Due.PLACE ? naive.places[n] : n % naive.told.m);
        }
        return 0;
    }

    private int other(int sign) {
        if (due == Due.ATOM) {
            return atom(sign);
        }
        if (due == Due.BEHIND_ATOM && sign == '^') {
            due = Due.EXPONENT;
            return 0;
        }
        if (due != Due.BEHIND_ATOM && due != Due.BEHIND_FACTOR) {
            return 1;
        }
        switch (sign) {
            case '*':
                foldProduct();
                due = Due.ATOM;
                return 0;
            case '+':
            case '-':
                foldSum();
                open.peek().toAdd = sign == '+' ? 1 : -1;
                due = Due.ATOM;
                return 0;
            case ')':
                if (open.peek().sign != '(') {
                    return 1;
                }
                foldSum();
                atomEnds(open.pop().total);
                return 0;
            default:
                return 1;
        }
    }

    private int atom(int sign) {
        switch (sign) {
            case 't':
                atomEnds(naive.told.r == 1 ? 0 : naive.told.m);
                return 0;
            case 'g':
                atomEnds(naive.told.generator);
                return 0;
            case 'p':
                atomEnds(naive.told.p % naive.told.m);
                return 0;
            case '#':
                due = Due.PLACE;
                return 0;
            case '(':
            case '-':
            case 'm':
            case 'r':
            case 'i':
                if (open.size() == 9) {
                    return 3;
                }
                open.push(new Open(sign));
                return 0;
            default:
                return 1;
        }
    }

    private void atomEnds(int x) {
        factor = x;
        while (open.peek().sign != 0 && open.peek().sign != '(') {
            switch (open.pop().sign) {
                case '-':
                    factor = naive.told.minus(0, factor);
                    break;
                case 'm':
                    factor = naive.told.moved[factor];
                    break;
                case 'r':
                    factor = naive.told.rootOf(factor);
                    break;
                default:
                    refused |= naive.told.inverse[factor] == Naive.NONE;
                    factor = Math.max(0, naive.told.inverse[factor]);
            }
        }
        due = Due.BEHIND_ATOM;
    }

    private void foldProduct() {
        open.peek().product = naive.told.times(open.peek().product, factor);
    }

    private void foldSum() {
        foldProduct();
        Open top = open.peek();
        top.total = top.toAdd > 0 ? naive.told.plus(top.total, top.product)
            : naive.told.minus(top.total, top.product);
        top.product = 1;
    }
}
