import java.util.Arrays;

/** The edges that the document names for the tape, EXPRS and what is SAID: Terms 2, promises 3, 4, 5, 29, 30. */
public final class EdgeTextTest extends Edge {
    private static final String OPENING = "(-mri";
    /** Blanks may end it, a number may go on: what stands behind a text's n bytes must not be looked at. */
    private static final char[] BEHIND = {'7', ')', ' ', '('};

    public static void main(String[] args) {
        EdgeTextTest test = new EdgeTextTest();
        test.bytesFed();
        test.atMost200();
        test.textOf200();
        test.textOfNone();
        test.tellRefuses();
        test.toldPlaces();
        test.tapeIsEmptyThen();
        test.placeAsItWasAhead();
        test.numbersAsTold();
        test.numbersAreRows();
        test.exponents();
        test.placesInTexts();
        test.tOfRankOne();
        test.blanks();
        test.everyByteFirst();
        test.everyByteBehindAtom();
        test.everyByteBehindFactor();
        test.everyByteForANumber();
        test.everyByteInside();
        test.theEnd();
        test.oneAheadOfTwo();
        test.oneAheadOfThree();
        test.theFirstToken();
        test.eightOpenNineNot();
        test.openTillAtomEnds();
        test.refusedAtNoUnit();
        test.faultAheadOfRefusal();
        test.latestFault();
        test.sayTakesElements();
        test.saysCoefficients();
        test.saidBytes();
        Check.end("EdgeTextTest");
    }

    /** M 9, t t is -1, and something in each PLACE but no tape. */
    private void texts(String told) {
        sentence(told, EdgeTextTest::filled);
    }

    private static void filled(RootedRing x) {
        x.ring(3, 2, 2);
        for (int i = 0; i < 8; i++) {
            x.put(i, place(x, i));
        }
    }

    /** Told to PLACE 5 of a new object: that has it, or nothing does. */
    private void tells(String text, int due, int fault) {
        for (char behind : BEHIND) {
            x = made();
            feed(x, text, behind);
            is("tell of " + text, x -> x.tell(5, text.length()), due);
            is("fault of " + text, x -> x.fault(), fault);
            is("tape of " + text, x -> x.count(10), 0);
            for (int i = 0; i < 8; i++) {
                int place = i;
                is("PLACE " + i + " of " + text, x -> x.put(place, 0),
                    place == 5 && due >= 0 ? due : place(x, place));
            }
        }
    }

    private void tells(String text, int due) {
        tells(text, due, NONE);
    }

    private void wrong(String text, int which, int fault) {
        tells(text, -10 - which, fault);
    }

    private void bytesFed() {
        sentence("3, of each number the highest first", 7, 4, 1);
        x.code(6, 0);
        is("twenty", x -> x.feed(0x010203ff, 0x80007fff, LEAST, -1, 0), 20);
        x.word();
        row("number", i -> x -> x.number(i), 1, 2, 3, 255, 128, 0);
        is("below 0", x -> x.feed(LEAST, 0x0000ffff, -1, -1, -1), 20);
        x.word();
        row("number", i -> x -> x.number(i), 128, 0, 0, 0, 0, 0);
        sentence("3, Twenty bytes come behind the tape", 2, 1, 6);
        is("twenty", x -> x.feed(0x01000000, 0, 0, 0, 0x00000001), 20);
        is("twenty more", x -> x.feed(0x01010000, 0, 0, 0, 0x00000100), 40);
        is("twenty more", x -> x.feed(0, 0x01, 0x01000000, 0, 0x00010100), 60);
        is("twenty more", x -> x.feed(0x00010101, 0x01010101, 0, 0, 0), 80);
        x.code(63, 0);
        is("word", x -> x.word(), 1);
        int[] ones = {0, 19, 20, 21, 38, 47, 48, 57, 58, 61, 62};
        for (int i = 0; i < 63; i++) {
            int at = i;
            is("number " + i, x -> x.number(at), Arrays.binarySearch(ones, at) >= 0 ? 1 : 0);
        }
    }

    private void atMost200() {
        sentence("3, how many it has", x -> { });
        for (int i = 1; i <= 10; i++) {
            int all = 20 * i;
            is("" + all, x -> x.feed(1, 2, 3, 4, 5), all);
        }
        sentence("3, NONE, and none come, if it would have more than 200", x -> {
            filled(x);
            feed(x, "1+".repeat(99) + "10", ' ');
        });
        none("220", x -> x.feed(0x31313131, 0x31313131, 0x31313131, 0x31313131, 0x31313131));
        none("220 of 0", x -> x.feed(0, 0, 0, 0, 0));
        none("240", x -> Math.max(x.feed(-1, -1, -1, -1, -1), x.feed(-1, -1, -1, -1, -1)));
        is("the 200 are told", x -> x.tell(0, 200), 1);
        is("twenty behind them", x -> x.feed(1, 2, 3, 4, 5), 20);
    }

    private void textOf200() {
        texts("2, A TEXT of at most 200 bytes");
        tells("1+".repeat(99) + "10", 1);
        tells(" ".repeat(199) + "8", 8);
        tells("8" + " ".repeat(199), 8);
        tells("0".repeat(199) + "7", 7);
        tells("7" + "*1".repeat(99) + " ", 7);
        wrong("1+".repeat(100), 1, 200);
        wrong(" ".repeat(200), 1, 200);
        wrong("1".repeat(200), 2, 0);
        wrong(" ".repeat(199) + ")", 1, 199);
        wrong("1".repeat(199) + "+", 2, 0);
        tells("(".repeat(8) + "1" + ")".repeat(8) + "+1".repeat(91), 2);
    }

    private void textOfNone() {
        texts("4, the first n bytes, n 0");
        wrong("", 1, 0);
        sentence("4, the first n bytes, n 0 of 20", x -> {
            filled(x);
            feed(x, "1", ' ');
        });
        keeps("tell", x -> x.tell(5, 0), -11, "count 10", "fault", "tape's text", "tape's fault");
        x.tell(5, 0);
        is("fault", x -> x.fault(), 0);
        is("the tape is empty then", x -> x.count(10), 0);
    }

    private void tellRefuses() {
        sentence("4, IllegalArgumentException (nothing changes): no such PLACE", busy(3, 2, 2, 8, 6));
        for (int place : new int[] {LEAST, -2, -1, 8, 9, GREATEST}) {
            noArgument("place " + place, x -> x.tell(place, 20));
            noArgument("place " + place + ", n 0", x -> x.tell(place, 0));
            noArgument("place " + place + ", n 21", x -> x.tell(place, 21));
        }
        sentence("4, IllegalArgumentException (nothing changes): the tape has not so many", busy(3, 2, 2, 8, 6));
        for (int n : new int[] {21, 22, 40, 200, 201, GREATEST}) {
            noArgument("n " + n, x -> x.tell(0, n));
        }
        is("20", x -> x.tell(0, 20), 17);
        sentence("4, IllegalArgumentException (nothing changes): n below 0", busy(3, 2, 2, 8, 6));
        for (int n : new int[] {LEAST, -20, -2, -1}) {
            noArgument("n " + n, x -> x.tell(0, n));
        }
        sentence("4, IllegalArgumentException: the tape has none", EdgeTextTest::filled);
        noArgument("n 1", x -> x.tell(0, 1));
        noArgument("n -1", x -> x.tell(0, -1));
        is("n 0", x -> x.tell(0, 0), -11);
        sentence("4, IllegalArgumentException: the tape has 200", x -> {
            filled(x);
            feed(x, "1".repeat(200), ' ');
        });
        noArgument("n 201", x -> x.tell(0, 201));
        is("n 200", x -> x.tell(0, 200), -12);
    }

    private void toldPlaces() {
        for (int i = 0; i < 8; i++) {
            int place = i;
            sentence("4, a PLACE has what it is then: that: " + place, EdgeTextTest::filled);
            feed(x, "t+3", ')');
            is("tell", x -> x.tell(place, 3), 12);
            row("PLACE", j -> x -> x.put(j, 0), place == 0 ? 12 : 1, place == 1 ? 12 : 6, place == 2 ? 12 : 11,
                place == 3 ? 12 : 16, place == 4 ? 12 : 21, place == 5 ? 12 : 26, place == 6 ? 12 : 31,
                place == 7 ? 12 : 36);
        }
    }

    private void tapeIsEmptyThen() {
        String[] texts = {"1", "1+", "10000", "---------1", "i0", ""};
        int[] due = {1, -11, -12, -13, -2, -11};
        for (int i = 0; i < texts.length; i++) {
            String text = texts[i];
            sentence("4, it is empty then, whatever comes of it", EdgeTextTest::filled);
            feed(x, text + " ".repeat(60), ' ');
            is(text, x -> x.tell(0, text.length()), due[i]);
            is("the tape behind " + text, x -> x.count(10), 0);
            noArgument("no more bytes", x -> x.tell(0, 1));
            is("from the first on", x -> x.feed(0x32323232, 0x2b312020, 0x20202020, 0x20202020, 0x20202020), 20);
            is("the new bytes alone, 2222+1", x -> x.tell(0, 6), 0);
        }
    }

    private void placeAsItWasAhead() {
        texts("2, what a PLACE has as it was ahead of the call");
        tells("#5+#5", 43);
        tells("#5", 26);
        tells("(#5)*#5-#5", 34);
        tells("#0", 1);
        tells("#7", 36);
    }

    private void numbersAsTold() {
        texts("2, NUMBER (0 to 9999: 1 so many times together)");
        tells("0", 0);
        tells("1", 1);
        tells("8", 8);
        tells("9", 0);
        tells("10", 1);
        tells("99", 0);
        tells("1000", 1);
        tells("9998", 8);
        tells("9999", 0);
        wrong("10000", 2, 0);
        wrong("10001", 2, 0);
        wrong("99999", 2, 0);
        wrong("1+10000", 2, 2);
        // these come round to 0, 1 or below 0 where they are held in 16, 32 or 64 bits
        for (String number : new String[] {"65536", "65537", "2147483647", "2147483648", "4294967295", "4294967296",
            "4294967297", "9223372036854775808", "18446744073709551616", "18446744073709551617",
            "340282366920938463463374607431768211457"}) {
            wrong(number, 2, 0);
        }
        sentence("2, NUMBER 9999 where M is 2401", x -> {
            x.ring(7, 4, 1);
            for (int i = 0; i < 8; i++) {
                x.put(i, place(x, i));
            }
        });
        tells("9999", 395);
        tells("2400", 2400);
        tells("2401", 0);
        wrong("10000", 2, 0);
    }

    private void numbersAreRows() {
        texts("2, a NUMBER counts as what it is, 007 as 7");
        tells("007", 7);
        tells("00", 0);
        tells("0009999", 0);
        tells("0009998", 8);
        wrong("00010000", 2, 0);
        tells("0".repeat(100) + "5", 5);
        wrong("0".repeat(100) + "10000", 2, 0);
        tells("2^003", 8);
        tells("#005", 26);
    }

    private void exponents() {
        texts("2, the POWER, 0 to 9999; 0: 1");
        tells("2^0", 1);
        tells("0^0", 1);
        tells("3^0", 1);
        tells("t^0", 1);
        tells("(1-1)^0", 1);
        tells("0^1", 0);
        tells("t^1", 9);
        tells("t^2", 8);
        tells("t^9998", 8);
        tells("t^9999", 72);
        tells("2^9999", 8);
        tells("0^9999", 0);
        tells("3^2", 0);
        wrong("t^10000", 2, 2);
        wrong("1^10000", 2, 2);
        wrong("1^4294967296", 2, 2);
        wrong("t^99999999999", 2, 2);
        tells("-2^2", 4);
        tells("m2^2", 4);
        tells("--t^3", 72);
    }

    private void placesInTexts() {
        texts("2, what a PLACE, 0 to 7, has");
        for (int i = 0; i < 8; i++) {
            tells("#" + i, 5 * i + 1);
        }
        wrong("#8", 2, 1);
        wrong("#9", 2, 1);
        wrong("#10", 2, 1);
        wrong("# 8", 2, 2);
        wrong("#08", 2, 1);
        wrong("#9999", 2, 1);
        wrong("#10000", 2, 1);
        wrong("#4294967296", 2, 1);
        wrong("1+#8+)", 2, 3);
        wrong("#-1", 1, 1);
        tells("#00000", 1);
        tells("#7^2", 2);
    }

    private void tOfRankOne() {
        sentence("2, t (of r 1: 0)", x -> {
            x.ring(5, 2, 1);
            for (int i = 0; i < 8; i++) {
                x.put(i, place(x, i));
            }
        });
        tells("t", 0);
        tells("t+7", 7);
        tells("t^0", 1);
        tells("it", -2);
        tells("p", 5);
        tells("g", 7);
        sentence("2, p where M is p: 0", x -> {
            x.ring(2, 1, 6);
            for (int i = 0; i < 8; i++) {
                x.put(i, place(x, i));
            }
        });
        tells("p", 0);
        tells("ip", -2);
        tells("t", 2);
        tells("t^6", 3);
    }

    private void blanks() {
        texts("2, blanks (32, 10) may stand anywhere between");
        tells(" 7", 7);
        tells("\n7", 7);
        tells("7 ", 7);
        tells("7\n", 7);
        tells(" \n 7\n \n", 7);
        tells("( 1\n+ 2 )\n* 2 ^ 2 ", 3);
        tells("- m\nr i # 5 - - 1", 21);
        tells("-mri#5--1", 21);
        tells("t ^\n9999", 72);
        texts("2, but not in a NUMBER");
        wrong("1 2", 1, 2);
        wrong("1\n2", 1, 2);
        wrong("2^1 2", 1, 4);
        wrong("#1 2", 1, 3);
        wrong("1  10000", 1, 3);
    }

    /** Where an ATOM is due: 0 it may come and end the text, 1 more must come, 2 a blank, 3 it can't stand. */
    private static int asAtom(int sign) {
        if (sign >= '0' && sign <= '9' || sign == 't' || sign == 'g' || sign == 'p') {
            return 0;
        }
        return OPENING.indexOf(sign) >= 0 || sign == '#' ? 1 : sign == 32 || sign == 10 ? 2 : 3;
    }

    private void byteBehind(String before, int sign, boolean ends, boolean more, boolean blankEnds) {
        RootedRing y = made();
        String text = before + (char) sign;
        feed(y, text, '7');
        int told = y.tell(5, text.length());
        String call = "byte " + sign + " behind " + before;
        if (ends || blankEnds && (sign == 32 || sign == 10)) {
            Check.same("2, " + call, told >= 0 ? 0 : told, 0);
            Check.same("2, fault of " + call, y.fault(), NONE);
        } else {
            boolean atEnd = more || sign == 32 || sign == 10;
            Check.same("2, " + call + " can't stand there", told, -11);
            Check.same("2, fault of " + call, y.fault(), atEnd ? text.length() : before.length());
        }
    }

    private void everyByteFirst() {
        texts("2, FAULT 1: it can't stand there (also any other byte)");
        for (String before : new String[] {"", " ", "1+", "1-", "1*", "-", "m", "r", "1+m", "1*-", "#1+"}) {
            for (int sign = 0; sign < 256; sign++) {
                byteBehind(before, sign, asAtom(sign) == 0, asAtom(sign) == 1, false);
            }
        }
    }

    private void everyByteBehindAtom() {
        for (String before : new String[] {"t", "g", "(1)", "-t", "1+t", "m(t)", "1 ", "#1 ", "r t", "-(t)"}) {
            for (int sign = 0; sign < 256; sign++) {
                byteBehind(before, sign, false, "+-*^".indexOf(sign) >= 0, true);
            }
        }
        for (String before : new String[] {"1", "12", "#0"}) {
            for (int sign = 0; sign < 256; sign++) {
                boolean figure = sign >= '0' && sign <= '9';
                if (!figure || before.charAt(0) != '#' || sign < '8') {
                    byteBehind(before, sign, figure, "+-*^".indexOf(sign) >= 0, true);
                }
            }
        }
    }

    private void everyByteBehindFactor() {
        for (String before : new String[] {"t^2 ", "1^1\n", "(1)^0 ", "1+t^3 "}) {
            for (int sign = 0; sign < 256; sign++) {
                byteBehind(before, sign, false, "+-*".indexOf(sign) >= 0, true);
            }
        }
        for (int sign = 0; sign < 256; sign++) {
            byteBehind("t^2", sign, sign >= '0' && sign <= '9', "+-*".indexOf(sign) >= 0, true);
        }
    }

    private void everyByteForANumber() {
        for (String before : new String[] {"1^", "t^ ", "(1)^\n", "-t^"}) {
            for (int sign = 0; sign < 256; sign++) {
                byteBehind(before, sign, sign >= '0' && sign <= '9', false, false);
            }
        }
        for (String before : new String[] {"#", "# ", "-#", "1+#\n"}) {
            for (int sign = 0; sign < 256; sign++) {
                if (sign != '8' && sign != '9') {
                    byteBehind(before, sign, sign >= '0' && sign <= '7', false, false);
                }
            }
        }
    }

    private void everyByteInside() {
        for (int sign = 0; sign < 256; sign++) {
            boolean asAtom = asAtom(sign) < 2;
            byteBehind("(", sign, false, asAtom, false);
            byteBehind("-(1+", sign, false, asAtom, false);
            byteBehind("(t", sign, sign == ')', "+-*^".indexOf(sign) >= 0, false);
            byteBehind("(t^2 ", sign, sign == ')', "+-*".indexOf(sign) >= 0, false);
            byteBehind("((t)", sign, sign == ')', "+-*^".indexOf(sign) >= 0, false);
            byteBehind("(((t)", sign, false, ")+-*^".indexOf(sign) >= 0, false);
        }
    }

    private void theEnd() {
        texts("2, FAULT 1: the end, where the text can't end: its length");
        for (String text : new String[] {"", " ", "\n", "1+", "1-", "1*", "1^", "#", "(", "-", "m", "r", "i", "(1", "((1)",
            "1+ ", "1^\n", "# ", "(1 \n", "-  ", "t*m ", "1+(2*3", "--------", "(((((((("}) {
            wrong(text, 1, text.length());
        }
    }

    private void oneAheadOfTwo() {
        texts("2, the first one of this list: 1 ahead of 2");
        wrong("1 10000", 1, 2);
        wrong("t 10000", 1, 2);
        wrong("(1)10000", 1, 3);
        wrong("1^1 10000", 1, 4);
        wrong("#1 99999999999", 1, 3);
        wrong("t99999", 1, 1);
        wrong("^10000", 1, 0);
    }

    private void oneAheadOfThree() {
        texts("2, the first one of this list: 1 ahead of 3");
        for (char sign : OPENING.toCharArray()) {
            if (sign != '-') {
                wrong("((((((((1" + sign, 1, 9);
                wrong("--------t" + sign, 1, 9);
                wrong("((((((((#" + sign, 1, 9);
                wrong("((((((((1^" + sign, 1, 10);
            }
        }
        wrong("((((((((1^-1", 1, 10);
        wrong("((((((((#-1", 1, 9);
        wrong("((((((((1-", 1, 10);
    }

    private void theFirstToken() {
        texts("2, at the first TOKEN at which one of these is so");
        wrong("10000)", 2, 0);
        wrong(")10000", 1, 0);
        wrong("(((((((((10000", 3, 8);
        wrong("10000+(((((((((", 2, 0);
        wrong("((((((((10000(", 2, 8);
        wrong("1++10000", 1, 2);
        wrong("#8)", 2, 1);
        wrong("1 1 )", 1, 2);
        wrong("\u00e9(", 1, 0);
        wrong("2*10000*\u0000", 2, 2);
        wrong("  10000", 2, 2);
        wrong(" \n x", 1, 3);
        wrong("1+  )", 1, 4);
    }

    private void eightOpenNineNot() {
        texts("2, FAULT 3: the 9th that are open at once");
        for (char a : OPENING.toCharArray()) {
            String close = a == '(' ? ")" : "";
            int due = 1;
            tells(("" + a).repeat(8) + "1" + close.repeat(8), due);
            wrong(("" + a).repeat(9) + "1" + close.repeat(9), 3, 8);
            for (char b : OPENING.toCharArray()) {
                String open = ("" + a).repeat(7) + b;
                String last = (b == '(' ? ")" : "") + close.repeat(7);
                tells(open + "1" + last, (a == '-' ? 1 : 0) == (b == '-' ? 1 : 0) ? 1 : 8);
                wrong(open + a + "1", 3, 8);
                wrong(open + "(1", 3, 8);
                wrong(open + " \n" + b, 3, 10);
            }
        }
        wrong("-(m(r(i(-1))))", 3, 8);
        tells("-(m(r(i(1))))", 8);
    }

    private void openTillAtomEnds() {
        texts("2, open at once: till their ATOM ends");
        tells("--------1+--------1", 2);
        tells("--------1*mmmmmmmm1-rrrrrrrr1+iiiiiiii1", 1);
        tells("--------t^2-m1", 7);
        tells("--------#0+(1)", 2);
        tells("((((((((1))))))))+((((((((1))))))))", 2);
        tells("((((((((1)))))))+(1))", 2);
        wrong("((((((((1)))))))+((((((((1", 3, 24);
        wrong("((((((((1)))))))+(((((((1", 1, 25);
        tells("-------(1)-(1)", 7);
        wrong("-------(-1)", 3, 8);
        tells("-------(1-1)", 0);
        wrong("-------(1--1)", 3, 10);
        tells("-------(1)--1", 0);
        tells("-(1+((((((1)))))))", 7);
        wrong("-(1+(((((((1))))))))", 3, 10);
        tells("-1-1-1-1-1-1-1-1-1-1-1", 7);
        tells("1+-1+-1+-1+-1+-1+-1+-1+-1+-1+-1", 0);
        tells("(1)*(1)*(1)*(1)*(1)*(1)*(1)*(1)*(1)*(1)", 1);
        tells("1-1-1-1-1-1-1-1-1-1", 1);
    }

    private void refusedAtNoUnit() {
        texts("4, -2: refused (no UNIT)");
        for (String text : new String[] {"i0", "i3", "ip", "i6", "i9999", "i(1-1)", "i(3*t)", "0*i3", "1+0*ip", "(i0)^0", "i0^0",
            "ii3", "mi3", "-i3", "ri3", "i(p+p)", "i-3", "im3", "ir3", "i#5*i3", "1*1*1+ip"}) {
            tells(text, -2);
        }
        tells("i1", 1);
        tells("i8", 8);
        tells("i2", 5);
        tells("it", 72);
        tells("i(p+1)", 7);
        tells("i2^2", 7);
        sentence("4, -2: these change nothing else", x -> {
            busy(3, 2, 2, 8, 6).make(x);
            x.tell(0, 0);
            feed(x, "ip", ' ');
        });
        keeps("tell", x -> x.tell(3, 2), -2, "fault", "count 10", "tape's text", "tape's fault");
        sentence("4, -10 less the FAULT: these change nothing else", x -> {
            busy(3, 2, 2, 8, 6).make(x);
            x.tell(0, 0);
            feed(x, "10000", ' ');
        });
        keeps("tell", x -> x.tell(3, 5), -12, "count 10", "tape's text", "tape's fault");
        keeps("tell", x -> x.tell(3, 20), -12, "count 10", "tape's text", "tape's fault");
    }

    private void faultAheadOfRefusal() {
        texts("2, When all is read without a FAULT it is worked out");
        wrong("i0)", 1, 2);
        wrong("i0+", 1, 3);
        wrong("ip*10000", 2, 3);
        wrong("i0+(((((((((1", 3, 11);
        wrong("(i0", 1, 3);
    }

    private void latestFault() {
        sentence("5, NONE: there was none", x -> { });
        is("at first", x -> x.fault(), NONE);
        sentence("5, NONE: none but an IllegalArgumentException", x -> { });
        noArgument("no PLACE", x -> x.tell(8, 0));
        Check.outcome(() -> x.tell(0, 1));
        is("fault", x -> x.fault(), NONE);
        sentence("5, the latest tell()'s FAULT", x -> {
            feed(x, "1+1+)", ' ');
            x.tell(0, 5);
        });
        is("its place", x -> x.fault(), 4);
        is("again", x -> x.fault(), 4);
        noArgument("stays behind no PLACE", x -> x.tell(8, 0));
        noArgument("stays behind n 1", x -> x.tell(0, 1));
        noArgument("stays behind n -1", x -> x.tell(0, -1));
        keeps("stays behind put", x -> x.put(0, 0), 0);
        sentence("5, NONE: it had none", x -> {
            feed(x, ")", ' ');
            x.tell(0, 1);
            feed(x, "1", ' ');
            x.tell(0, 1);
        });
        is("fault", x -> x.fault(), NONE);
        sentence("5, NONE: it was refused", x -> {
            feed(x, ")", ' ');
            x.tell(0, 1);
            feed(x, "i0", ' ');
            x.tell(0, 2);
        });
        is("fault", x -> x.fault(), NONE);
        sentence("5, place 0", x -> {
            feed(x, "1+)", ' ');
            x.tell(0, 3);
            feed(x, ")", ' ');
            x.tell(0, 1);
        });
        is("fault", x -> x.fault(), 0);
    }

    private void sayTakesElements() {
        int[][] rings = {{2, 1, 1}, {3, 2, 2}, {2, 2, 6}, {7, 4, 1}};
        for (int[] ring : rings) {
            sentence("29, NoSuchElementException: no such ELEMENT", busy(ring[0], ring[1], ring[2], 1, 0));
            int size = x.count(5);
            is("0", x -> x.say(0), 1);
            is("the last", x -> x.say(size - 1) >= 1 ? 1 : 0, 1);
            for (int y : new int[] {LEAST, -size, -1, size, size + 1, GREATEST}) {
                noElement("" + y, x -> x.say(y));
            }
        }
        sentence("29, NoSuchElementException, and nothing was SAID", x -> { });
        noElement("2", x -> x.say(2));
        Check.outcome(() -> x.say(2));
        is("said 0", x -> x.said(0), NONE);
    }

    private void says(int y, String due) {
        is("say " + y, x -> x.say(y), due.length());
        for (int i = 0; i < due.length(); i++) {
            int at = i;
            is("said " + y + " " + i, x -> x.said(at), due.charAt(at));
        }
        is("said " + y + " behind", x -> x.said(due.length()), NONE);
        is("said " + y + " ahead", x -> x.said(-1), NONE);
    }

    private void saysCoefficients() {
        sentence("29, by its coefficients: those that aren't 0; 0 alone is 0", 2, 2, 6);
        says(0, "0");
        says(1, "1");
        says(2, "2");
        says(4, "t");
        says(8, "2*t");
        says(6, "t+2");
        says(5, "t+1");
        says(16, "t^2");
        says(17, "t^2+1");
        says(1024, "t^5");
        says(3072, "3*t^5");
        says(1025, "t^5+1");
        says(1365, "t^5+t^4+t^3+t^2+t+1");
        says(4095, "3*t^5+3*t^4+3*t^3+3*t^2+3*t+3");
        sentence("29, M 2", 2, 1, 6);
        says(0, "0");
        says(1, "1");
        says(2, "t");
        says(63, "t^5+t^4+t^3+t^2+t+1");
        sentence("29, numbers of two figures", 7, 2, 2);
        says(48, "48");
        says(10, "10");
        says(9, "9");
        says(49, "t");
        says(98, "2*t");
        says(49 * 11, "11*t");
        says(2400, "48*t+48");
        sentence("29, numbers of four figures", 7, 4, 1);
        says(9, "9");
        says(10, "10");
        says(99, "99");
        says(100, "100");
        says(999, "999");
        says(1000, "1000");
        says(2400, "2400");
        says(2009, "2009");
        says(0, "0");
    }

    private void saidBytes() {
        sentence("30, NONE: nothing was SAID", x -> { });
        for (int i : new int[] {LEAST, -1, 0, 1, 200, GREATEST}) {
            none("" + i, x -> x.said(i));
        }
        sentence("30, NONE: there is none such", busy(2, 2, 6, 1, 0));
        is("the first", x -> x.said(0), '3');
        is("the last", x -> x.said(28), '3');
        for (int i : new int[] {LEAST, -2, -1, 29, 30, 199, 200, GREATEST}) {
            none("" + i, x -> x.said(i));
        }
        sentence("30, what the latest say() SAID: a shorter one behind a longer", x -> {
            busy(2, 2, 6, 1, 0).make(x);
            x.say(4);
        });
        is("t", x -> x.said(0), 't');
        none("behind it", x -> x.said(1));
        none("what was there", x -> x.said(28));
        sentence("30, as it was then, whatever came since", busy(3, 2, 2, 8, 6));
        x.ring(2, 1, 1);
        x.tell(0, 0);
        Check.outcome(() -> x.say(2));
        row("said", i -> x -> x.said(i), '8', '*', 't', '+', '8', NONE);
    }
}
