import java.util.Arrays;

/** The edges that the document names for WORDS: promises 24 to 28. */
public final class EdgeWordTest extends Edge {
    public static void main(String[] args) {
        EdgeWordTest test = new EdgeWordTest();
        test.tapeOfWords();
        test.tapeTooShort();
        test.bytesBelowM();
        test.bytesOverM();
        test.bytesBehind();
        test.latestStays();
        test.inTheCodeOrOff();
        test.numbers();
        test.noWord();
        test.rests();
        test.restOfNoClassAndAll();
        test.mendsAsked();
        test.firstAndLastMend();
        test.howManyMends();
        test.mendsOfTheLeastCodes();
        test.nearestAsked();
        test.nearestOfMany();
        test.nearestAtAll();
        Check.end("EdgeWordTest");
    }

    private void tapeOfWords() {
        int[] lengths = {1, 20, 40, 60};
        for (int n : lengths) {
            sentence("24, the tape's first n bytes, n " + n, x -> {
                x.ring(7, 1, 4);
                x.code(n, 0);
            });
            for (int bytes = 20; bytes < n; bytes += 20) {
                x.feed(0, 0, 0, 0, 0);
                is("tape of " + bytes, x -> x.word(), Check.NO_ARGUMENT);
            }
            x.feed(0, 0, 0, 0, 6);
            is("no more than n", x -> x.word(), 1);
            is("it is empty then", x -> x.count(10), 0);
            is("no more", x -> x.word(), Check.NO_ARGUMENT);
            is("the last number", x -> x.number(n - 1), n == 1 ? 0 : 6);
            noElement("no WORD without it", x -> x.number(n - 1));
        }
    }

    private void tapeTooShort() {
        sentence("24, IllegalArgumentException (nothing changes): the tape has not so many, 0 of 1", x -> { });
        noArgument("word", x -> x.word());
        sentence("24, IllegalArgumentException (nothing changes): the tape has not so many, 0 of 7", x -> {
            busy(2, 2, 3, 7, 3).make(x);
            x.tell(0, 0);
        });
        noArgument("word", x -> x.word());
        sentence("24, IllegalArgumentException (nothing changes): the tape has not so many, 20 of 21", x -> {
            x.ring(2, 1, 6);
            x.code(21, 4);
            word(x, new int[21]);
            feed(x, "1+1", ' ');
        });
        noArgument("word", x -> x.word());
        sentence("24, IllegalArgumentException (nothing changes): 60 of 63", x -> {
            x.ring(2, 1, 6);
            x.code(63, 4);
            word(x, one(63, 62, 1));
            feed(x, "1+1" + " ".repeat(50), ' ');
        });
        noArgument("word", x -> x.word());
        sentence("24, IllegalArgumentException (ahead of it): the tape has not so many, bytes of M and more", x -> {
            x.ring(2, 1, 6);
            x.code(63, 4);
            feed(x, "9", (char) 255);
        });
        noArgument("word", x -> x.word());
    }

    private void bytesBelowM() {
        int[][] rings = {{2, 1, 2, 3, 2}, {2, 2, 2, 3, 4}, {2, 4, 2, 3, 16}, {3, 4, 1, 2, 81}, {5, 3, 1, 4, 125}, {7, 2, 1, 6, 49},
            {7, 1, 2, 48, 7}};
        for (int[] ring : rings) {
            int n = ring[3];
            int m = ring[4];
            sentence("24, each 0 to M - 1, M " + m, x -> {
                x.ring(ring[0], ring[1], ring[2]);
                x.code(n, 0);
                word(x, one(n, n - 1, 1));
            });
            for (int i = 0; i < n; i++) {
                int at = i;
                is("M - 1 at " + i, x -> word(x, one(n, at, m - 1)), 1);
                is("it is there", x -> x.number(at), m - 1);
            }
            for (int at : new int[] {0, n / 2, n - 1}) {
                for (int c : new int[] {m, m + 1, 127, 128, 255}) {
                    if (c >= m) {
                        keeps(c + " at " + at, x -> word(x, one(n, at, c)), NONE);
                    }
                }
            }
        }
    }

    private void bytesOverM() {
        int[][] rings = {{7, 3, 1, 6}, {5, 4, 1, 4}, {7, 4, 1, 6}};
        for (int[] ring : rings) {
            int n = ring[3];
            sentence("24, each 0 to M - 1, M over 255", x -> {
                x.ring(ring[0], ring[1], ring[2]);
                x.code(n, 0);
            });
            is("255", x -> word(x, one(n, n - 1, 255)), 1);
            is("it is there", x -> x.number(n - 1), 255);
            is("255 ahead", x -> word(x, one(n, 0, 255)), 1);
            is("it is there", x -> x.number(0), 255);
        }
    }

    private void bytesBehind() {
        sentence("24, the first n bytes alone", x -> {
            x.ring(2, 2, 3);
            x.code(7, 0);
        });
        x.feed(0x00010203, 0x00010204, -1, -1, -1);
        x.feed(-1, -1, -1, -1, -1);
        is("4 behind them", x -> x.word(), 1);
        row("number", i -> x -> x.number(i), 0, 1, 2, 3, 0, 1, 2, Check.NO_ELEMENT);
        is("it is empty then", x -> x.count(10), 0);
        x.feed(0x00010204, 0x00010200, 0, 0, 0);
        is("4 among them", x -> x.word(), NONE);
        is("it is empty then", x -> x.count(10), 0);
        is("no more", x -> x.word(), Check.NO_ARGUMENT);
    }

    private void latestStays() {
        sentence("24, NONE (the latest one stays): some byte is M or more", x -> {
            busy(2, 2, 3, 7, 3).make(x);
            x.tell(0, 0);
            feed(x, "", ' ');
            x.feed(0x01010404, 0, 0, 0, 0);
        });
        keeps("word", x -> x.word(), NONE, "count 10", "tape's text", "tape's fault");
        sentence("24, a WORD stays the latest one till another one", busy(2, 2, 3, 7, 3));
        row("the latest", i -> x -> x.number(i), 1, 2, 1, 2, 1, 2, 1);
        x.ring(4, 1, 1);
        x.code(7, 8);
        x.put(0, 1);
        x.say(3);
        x.tell(0, 20);
        row("stays", i -> x -> x.number(i), 1, 2, 1, 2, 1, 2, 1);
        is("another", x -> word(x, 0, 0, 0, 0, 0, 0, 3), 0);
        row("another", i -> x -> x.number(i), 0, 0, 0, 0, 0, 0, 3);
    }

    private void inTheCodeOrOff() {
        sentence("24, 1 it is in the CODE, 0 it is OFF", x -> {
            x.ring(2, 2, 3);
            x.code(7, 2);
        });
        is("0", x -> word(x, 0, 0, 0, 0, 0, 0, 0), 1);
        is("MAKER", x -> word(x, 3, 1, 2, 1, 0, 0, 0), 1);
        is("MAKER times X^3", x -> word(x, 0, 0, 0, 3, 1, 2, 1), 1);
        is("round the end", x -> word(x, 1, 0, 0, 0, 3, 1, 2), 1);
        is("3 times it", x -> word(x, 1, 3, 2, 3, 0, 0, 0), 1);
        is("all 1", x -> word(x, 1, 1, 1, 1, 1, 1, 1), 1);
        for (int i = 0; i < 7; i++) {
            for (int v = 1; v <= 3; v++) {
                int[] row = one(7, i, v);
                is(v + " at " + i, x -> word(x, row), 0);
            }
        }
        sentence("24, SIZE 1: numbers that are alike alone", x -> {
            x.ring(2, 2, 3);
            x.code(7, 6);
        });
        is("all 1", x -> word(x, 1, 1, 1, 1, 1, 1, 1), 1);
        is("all 3", x -> word(x, 3, 3, 3, 3, 3, 3, 3), 1);
        is("the last 2", x -> word(x, 3, 3, 3, 3, 3, 3, 2), 0);
        row("its REST", i -> x -> x.rest(i), 1, 1, 1, 1, 1, 1);
        is("the first 0", x -> word(x, 0, 1, 1, 1, 1, 1, 1), 0);
        row("its REST", i -> x -> x.rest(i), 3, 0, 0, 0, 0, 0, Check.NO_ELEMENT);
        sentence("24, SIZE 0: 0 alone", x -> {
            x.ring(2, 2, 3);
            x.code(7, 7);
        });
        is("0", x -> word(x, 0, 0, 0, 0, 0, 0, 0), 1);
        is("all 1", x -> word(x, 1, 1, 1, 1, 1, 1, 1), 0);
        is("the last 2", x -> word(x, 0, 0, 0, 0, 0, 0, 2), 0);
        sentence("24, SIZE n: all", x -> {
            x.ring(2, 2, 3);
            x.code(7, 0);
        });
        is("any", x -> word(x, 3, 0, 2, 1, 0, 0, 1), 1);
    }

    private void numbers() {
        sentence("25, NoSuchElementException: no such one", busy(2, 2, 3, 7, 3));
        row("number", i -> x -> x.number(i), 1, 2, 1, 2, 1, 2, 1);
        for (int i : new int[] {LEAST, -7, -2, -1, 7, 8, 62, 63, GREATEST}) {
            noElement("" + i, x -> x.number(i));
        }
        sentence("25, no such one, n 63", x -> {
            x.ring(2, 1, 6);
            x.code(63, 1);
            word(x, one(63, 62, 1));
        });
        is("62", x -> x.number(62), 1);
        noElement("63", x -> x.number(63));
        sentence("25, no such one, n 1", x -> word(x, 1));
        is("0", x -> x.number(0), 1);
        noElement("1", x -> x.number(1));
    }

    private void noWord() {
        Ahead[] all = {x -> { }, x -> {
            x.ring(2, 2, 3);
            x.code(7, 3);
        }, x -> {
            x.ring(2, 2, 3);
            x.code(7, 3);
            word(x, 0, 0, 0, 0, 0, 0, 4);
        }, x -> {
            busy(2, 2, 3, 7, 3).make(x);
            x.code(7, 1);
        }, x -> {
            busy(2, 2, 3, 7, 3).make(x);
            x.ring(7, 1, 1);
        }};
        for (Ahead ahead : all) {
            sentence("25 to 28, NoSuchElementException: no WORD", ahead);
            noElement("number", x -> x.number(0));
            noElement("rest", x -> x.rest(0));
            for (int i = -1; i <= 3; i++) {
                int what = i;
                noElement("mend " + i, x -> x.mend(what));
                noElement("nearest " + i, x -> x.nearest(what));
            }
        }
    }

    private void rests() {
        sentence("26, NoSuchElementException: no such one (MAKER's degree 3)", x -> {
            x.ring(2, 2, 3);
            x.code(7, 2);
            word(x, 0, 0, 0, 1, 0, 0, 0);
        });
        row("X^3", i -> x -> x.rest(i), 1, 3, 2);
        for (int i : new int[] {LEAST, -2, -1, 3, 4, 7, 63, GREATEST}) {
            noElement("" + i, x -> x.rest(i));
        }
        sentence("26, what is left of it by MAKER", x -> {
            x.ring(2, 2, 3);
            x.code(7, 2);
        });
        int[][] due = {{1, 0, 0}, {0, 1, 0}, {0, 0, 1}, {1, 3, 2}, {2, 3, 3}, {3, 3, 1}, {1, 2, 1}};
        for (int i = 0; i < 7; i++) {
            int[] row = one(7, i, 1);
            is("X^" + i, x -> word(x, row), 0);
            row("X^" + i, j -> x -> x.rest(j), due[i]);
        }
        is("of the CODE", x -> word(x, 1, 1, 1, 1, 1, 1, 1), 1);
        row("of the CODE", j -> x -> x.rest(j), 0, 0, 0);
    }

    private void restOfNoClassAndAll() {
        sentence("26, no such one (MAKER's degree 0)", x -> {
            x.ring(2, 2, 3);
            x.code(7, 0);
            word(x, 1, 2, 3, 1, 2, 3, 1);
        });
        for (int i : new int[] {LEAST, -1, 0, 1, 6, 7, GREATEST}) {
            noElement("" + i, x -> x.rest(i));
        }
        sentence("26, no such one (MAKER's degree n)", x -> {
            x.ring(2, 2, 3);
            x.code(7, 7);
            word(x, 1, 2, 3, 1, 2, 3, 1);
        });
        row("itself", i -> x -> x.rest(i), 1, 2, 3, 1, 2, 3, 1);
        noElement("7", x -> x.rest(7));
        noElement("-1", x -> x.rest(-1));
        sentence("26, no such one (MAKER's degree 63)", x -> {
            x.ring(2, 1, 6);
            x.code(63, (1 << 13) - 1);
            word(x, one(63, 62, 1));
        });
        is("62", x -> x.rest(62), 1);
        is("61", x -> x.rest(61), 0);
        noElement("63", x -> x.rest(63));
        sentence("26, n 1, CLASS 0", x -> {
            x.code(1, 1);
            word(x, 1);
        });
        is("0", x -> x.rest(0), 1);
        noElement("1", x -> x.rest(1));
        noElement("-1", x -> x.rest(-1));
    }

    private void mendsAsked() {
        sentence("27, NoSuchElementException: another what", busy(2, 2, 3, 7, 3));
        for (int what : new int[] {LEAST, -2, -1, 3, 4, GREATEST}) {
            noElement("" + what, x -> x.mend(what));
        }
        sentence("27, A WORD in the CODE: 0, NONE, NONE", x -> {
            x.ring(2, 2, 3);
            x.code(7, 3);
        });
        is("0", x -> word(x, 0, 0, 0, 0, 0, 0, 0), 1);
        row("0", i -> x -> x.mend(i), 0, NONE, NONE);
        is("one of it", x -> word(x, 1, 2, 3, 1, 1, 0, 0), 1);
        row("one of it", i -> x -> x.mend(i), 0, NONE, NONE);
        is("OFF", x -> word(x, 1, 2, 3, 1, 1, 1, 0), 0);
        row("OFF", i -> x -> x.mend(i), 1, 5, 3);
        is("in it again", x -> word(x, 1, 2, 3, 1, 1, 0, 0), 1);
        row("in it again", i -> x -> x.mend(i), 0, NONE, NONE);
    }

    private void firstAndLastMend() {
        int[][] rings = {{2, 2, 3, 7, 2, 4}, {2, 1, 6, 63, 6, 2}, {7, 4, 1, 6, 7, 2401}, {7, 2, 2, 48, 30, 49}};
        for (int[] ring : rings) {
            int n = ring[3];
            int m = ring[5];
            sentence("27, v (1 to M - 1), i (0 to n - 1), M " + m, x -> {
                x.ring(ring[0], ring[1], ring[2]);
                x.code(n, ring[4]);
            });
            for (int at : new int[] {0, 1, n - 2, n - 1}) {
                int most = Math.min(255, m - 1);
                is("1 at " + at, x -> word(x, one(n, at, 1)), 0);
                row("1 at " + at, i -> x -> x.mend(i), 1, at, m - 1);
                is(most + " at " + at, x -> word(x, one(n, at, most)), 0);
                row(most + " at " + at, i -> x -> x.mend(i), 1, at, m - most);
            }
        }
    }

    private void howManyMends() {
        sentence("27, in how many ways: none", x -> {
            x.ring(2, 2, 3);
            x.code(7, 7);
        });
        is("two off", x -> word(x, 1, 0, 0, 0, 0, 0, 1), 0);
        row("two off", i -> x -> x.mend(i), 0, NONE, NONE);
        is("the first off", x -> word(x, 3, 0, 0, 0, 0, 0, 0), 0);
        row("the first off", i -> x -> x.mend(i), 1, 0, 1);
        is("the last off", x -> word(x, 0, 0, 0, 0, 0, 0, 3), 0);
        row("the last off", i -> x -> x.mend(i), 1, 6, 1);
        is("two off again", x -> word(x, 0, 1, 0, 1, 0, 0, 0), 0);
        row("two off again", i -> x -> x.mend(i), 0, NONE, NONE);
        sentence("27, in how many ways: at each i", x -> {
            x.ring(2, 2, 3);
            x.code(7, 1);
        });
        for (int v = 1; v <= 3; v++) {
            int c = v;
            is("by " + c, x -> word(x, 0, 0, 0, 4 - c, 0, 0, 0), 0);
            row("by " + c, i -> x -> x.mend(i), 7, 0, c);
        }
        sentence("27, the first i, its v, not the least v", x -> {
            x.ring(5, 1, 2);
            x.code(4, 0b0010);
        });
        row("MAKER X + 2", i -> x -> x.coefficient(0, i), 2, 1);
        is("OFF", x -> word(x, 0, 1, 0, 0), 0);
        row("by 2, 4, 3 or 1", i -> x -> x.mend(i), 4, 0, 2);
    }

    private void mendsOfTheLeastCodes() {
        sentence("27, n 1, CLASS 0", x -> {
            x.ring(2, 2, 1);
            x.code(1, 1);
        });
        is("0", x -> word(x, 0), 1);
        row("0", i -> x -> x.mend(i), 0, NONE, NONE);
        for (int i = 1; i <= 3; i++) {
            int c = i;
            is("" + c, x -> word(x, c), 0);
            row("" + c, j -> x -> x.mend(j), 1, 0, 4 - c);
        }
        sentence("27, n 1, no CLASS", 2, 2, 1);
        is("3", x -> word(x, 3), 1);
        row("3", i -> x -> x.mend(i), 0, NONE, NONE);
    }

    private void nearestAsked() {
        sentence("28, NoSuchElementException: no such i", busy(2, 2, 3, 7, 3));
        is("at how many", x -> x.nearest(NONE), 2);
        for (int i : new int[] {LEAST, -7, -3, -2, 7, 8, 63, GREATEST}) {
            noElement("" + i, x -> x.nearest(i));
        }
        sentence("28, NoSuchElementException (ahead of that): no WORD", x -> {
            x.ring(2, 2, 6);
            x.code(63, 0);
        });
        for (int i : new int[] {LEAST, -2, -1, 0, 62, 63}) {
            noElement("" + i, x -> x.nearest(i));
        }
        sentence("28, NoSuchElementException (ahead of that): no such i", x -> {
            x.ring(2, 2, 6);
            x.code(63, 0);
            word(x, new int[63]);
        });
        for (int i : new int[] {LEAST, -2, 63, 64, GREATEST}) {
            noElement("" + i, x -> x.nearest(i));
        }
        for (int i : new int[] {NONE, 0, 62}) {
            none("" + i, x -> x.nearest(i));
        }
    }

    private void nearestOfMany() {
        sentence("28, The first WORD, the first number counting most", x -> {
            x.ring(2, 2, 3);
            x.code(7, 1);
        });
        is("OFF", x -> word(x, 3, 1, 2, 1, 0, 0, 0), 0);
        is("at how many", x -> x.nearest(NONE), 1);
        row("the first", i -> x -> x.nearest(i), 0, 1, 2, 1, 0, 0, 0);
        is("OFF", x -> word(x, 0, 1, 2, 1, 0, 3, 3), 0);
        row("the first that can be less", i -> x -> x.nearest(i), 0, 1, 0, 1, 0, 3, 3);
        is("OFF", x -> word(x, 0, 1, 1, 1, 0, 0, 3), 0);
        row("the last alone can be less", i -> x -> x.nearest(i), 0, 1, 1, 1, 0, 0, 1);
        is("OFF", x -> word(x, 1, 1, 0, 0, 0, 0, 0), 0);
        row("none can be less", i -> x -> x.nearest(i), 1, 1, 0, 0, 0, 0, 2);
        is("OFF", x -> word(x, 0, 0, 0, 0, 0, 0, 1), 0);
        row("to 0", i -> x -> x.nearest(i), 0, 0, 0, 0, 0, 0, 0);
        is("OFF", x -> word(x, 0, 0, 0, 0, 0, 1, 0), 0);
        row("to 0", i -> x -> x.nearest(i), 0, 0, 0, 0, 0, 0, 0);
        is("in the CODE", x -> word(x, 0, 0, 0, 0, 0, 1, 3), 1);
        is("at none", x -> x.nearest(NONE), 0);
        row("itself", i -> x -> x.nearest(i), 0, 0, 0, 0, 0, 1, 3);
        is("OFF again", x -> word(x, 1, 0, 0, 0, 0, 0, 0), 0);
        row("OFF again", i -> x -> x.nearest(i), 0, 0, 0, 0, 0, 0, 0);
        sentence("28, the first number counting most, SIZE 3", x -> {
            x.ring(2, 2, 3);
            x.code(7, 3);
        });
        is("OFF", x -> word(x, 0, 2, 2, 2, 2, 0, 0), 0);
        is("at how many", x -> x.nearest(NONE), 2);
        row("0202220, not 0222002", i -> x -> x.nearest(i), 0, 2, 0, 2, 2, 2, 0);
        is("OFF", x -> word(x, 0, 2, 3, 1, 0, 1, 0), 0);
        is("at how many", x -> x.nearest(NONE), 3);
        row("0131021, not 0230313", i -> x -> x.nearest(i), 0, 1, 3, 1, 0, 2, 1);
    }

    private void nearestAtAll() {
        sentence("28, at how many: all", x -> {
            x.ring(2, 2, 3);
            x.code(7, 7);
        });
        is("OFF", x -> word(x, 1, 2, 3, 1, 2, 3, 1), 0);
        is("at how many", x -> x.nearest(NONE), 7);
        row("0", i -> x -> x.nearest(i), 0, 0, 0, 0, 0, 0, 0);
        sentence("28, at how many: all 63", x -> {
            x.ring(2, 1, 6);
            x.code(63, (1 << 13) - 1);
        });
        int[] ones = new int[63];
        Arrays.fill(ones, 1);
        is("OFF", x -> word(x, ones), 0);
        is("at how many", x -> x.nearest(NONE), 63);
        is("the last", x -> x.nearest(62), 0);
        sentence("28, n 1", x -> x.code(1, 1));
        is("OFF", x -> word(x, 1), 0);
        is("at how many", x -> x.nearest(NONE), 1);
        is("0", x -> x.nearest(0), 0);
        sentence("28, n 1, no CLASS", x -> { });
        is("1", x -> word(x, 1), 1);
        is("at how many", x -> x.nearest(NONE), 0);
        is("1", x -> x.nearest(0), 1);
        sentence("28, the last of 65536 WORDS", x -> {
            x.ring(2, 2, 4);
            x.code(15, 0b11001);
        });
        int[] row = {0, 0, 0, 0, 0, 0, 0, 3, 0, 0, 0, 0, 0, 0, 0};
        for (int i = 0; i <= 7; i++) {
            row[7 + i] = 3 * x.coefficient(0, i) % 4;
        }
        is("in the CODE", x -> word(x, row), 1);
        is("at none", x -> x.nearest(NONE), 0);
        is("the last", x -> x.nearest(14), 3);
    }
}
