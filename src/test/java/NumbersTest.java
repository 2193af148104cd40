/** Promises 17 to 30: numbers. */
public final class NumbersTest {
    private static final Due due = new Due();
    private static final int BAD = House.BAD, FULL = House.FULL, BEYOND = House.BEYOND, OPEN = House.OPEN;
    private static final int NOT = House.NOT, EMPTY = House.EMPTY, GREAT = House.GREAT, SPENT = House.SPENT;
    private static final int[] PRIMES = {3, 5, 7, 11};

    private static int openOne(KnotTable x) {
        int p = x.picture();
        x.crossing(p, 0, 1, 2, 3);
        return p;
    }

    private static void promise17Sign() {
        KnotTable x = new KnotTable();
        int p = House.knot(x, House.FIGURE_EIGHT);
        int[] signs = {1, 1, -1, -1};
        for (int c = 0; c < 4; c++) {
            due.is("sign", x.sign(p, c), signs[c]);
        }
        x.mirror(p);
        for (int c = 0; c < 4; c++) {
            due.is("sign of the mirror's", x.sign(p, c), -signs[c]);
        }
        due.refused(x, "sign(4)", x.sign(p, 4), BEYOND);
        due.refused(x, "sign(-1)", x.sign(p, -1), BEYOND);
        due.refused(x, "sign of no picture", x.sign(1, 0), BAD);
        due.refused(x, "sign of an open one", x.sign(openOne(x), 9), OPEN);
    }

    private static void promise18PieceOf() {
        KnotTable x = new KnotTable();
        int p = House.knot(x, House.HOPF);
        // rows 1 2 0 3 and 2 1 3 0: the first goes out at END 0 by ARC 1, and comes back by ARC 0
        int[] pieces = {0, 1, 0, 1, 1, 0, 1, 0};
        for (int e = 0; e < 8; e++) {
            due.is("pieceOf " + e, x.pieceOf(p, e), pieces[e]);
        }
        due.refused(x, "pieceOf 8", x.pieceOf(p, 8), BEYOND);
        due.refused(x, "pieceOf -1", x.pieceOf(p, -1), BEYOND);
        due.refused(x, "pieceOf far", x.pieceOf(p, Integer.MAX_VALUE), BEYOND);
        due.refused(x, "pieceOf of no picture", x.pieceOf(-1, 0), BAD);
        due.refused(x, "pieceOf of an open one", x.pieceOf(openOne(x), 99), OPEN);
    }

    private static void promise19Linking() {
        KnotTable x = new KnotTable();
        int h = House.knot(x, House.HOPF);
        x.loose(h, 1);
        due.is("linking", x.linking(h, 0, 1), -1);
        due.is("linking", x.linking(h, 1, 0), -1);
        due.is("linking with a loose one", x.linking(h, 0, 2), 0);
        due.is("linking with a loose one", x.linking(h, 2, 1), 0);
        due.is("linking of two kinks", x.linking(House.knot(x, House.UNLINK), 0, 1), 0);
        due.is("linking by four", Math.abs(x.linking(House.braid(x, 4), 0, 1)), 2);
        due.refused(x, "one twice", x.linking(h, 1, 1), NOT);
        due.refused(x, "no piece", x.linking(h, 0, 3), NOT);
        due.refused(x, "no piece", x.linking(h, -1, 0), NOT);
        due.refused(x, "no picture", x.linking(9, 0, 1), BAD);
        due.refused(x, "an open one", x.linking(openOne(x), 5, 5), OPEN);
        int c = x.picture();
        x.loose(c, 2);
        due.is("two loose ones", x.linking(c, 0, 1), 0);
        due.refused(x, "a loose one twice", x.linking(c, 1, 1), NOT);
    }

    private static void promise20Colours() {
        KnotTable x = new KnotTable();
        int[][] knots = {House.TREFOIL, House.FIGURE_EIGHT, House.HOPF, House.UNLINK, House.CIRCLE};
        int[][] powers = {{2, 1, 1, 1}, {1, 2, 1, 1}, {1, 1, 1, 1}, {2, 2, 2, 2}, {1, 1, 1, 1}};
        for (int k = 0; k < knots.length; k++) {
            int p = House.knot(x, knots[k]);
            for (int m = 0; m < 4; m++) {
                due.is("colours of " + k + " by " + PRIMES[m], x.colours(p, PRIMES[m]), powers[k][m]);
                x.loose(p, 9);
                due.is("with circles", x.colours(p, PRIMES[m]), powers[k][m] + 9 - (k == 4 ? 1 : 0));
                x.loose(p, k == 4 ? 1 : 0);
            }
        }
        due.is("by 7", x.colours(House.braid(x, 7), 7), 2);
        due.is("by 11", x.colours(House.braid(x, 11), 11), 2);
        due.is("of nothing", x.colours(x.picture(), 3), 0);
        due.is("of 39 crossings", x.colours(House.braid(x, 39), 3), 2);
        int t = 0;
        due.is("of a sum", x.colours(x.join(t, 0, t, 0), 3), 3);
        int[] wrong = {2, 4, 9, 13, 0, -3, 1};
        for (int m : wrong) {
            due.refused(x, "colours by " + m, x.colours(t, m), BAD);
        }
        int o = openOne(x);
        due.refused(x, "open, by 2", x.colours(o, 2), BAD);
        due.refused(x, "open", x.colours(o, 3), OPEN);
        due.refused(x, "no picture", x.colours(99, 3), BAD);
    }

    private static void numbers(KnotTable x, String of, int... powersAndNumbers) {
        int seen = 0;
        for (int k = 0; k < powersAndNumbers.length; k += 2) {
            due.is(of + " at " + powersAndNumbers[k], x.at(powersAndNumbers[k]), powersAndNumbers[k + 1]);
        }
        for (int power = x.power(0); power <= x.power(1); power++) {
            seen += x.at(power) != 0 ? 1 : 0;
        }
        due.is(of + ": numbers", seen, powersAndNumbers.length / 2);
    }

    private static void promise21Bracket() {
        KnotTable x = new KnotTable();
        int t = House.knot(x, House.TREFOIL);
        due.is("bracket", x.bracket(t), 3);
        numbers(x, "trefoil", -7, 1, -3, -1, 5, -1);
        due.is("bracket of a Hopf link", x.bracket(House.knot(x, House.HOPF)), 2);
        numbers(x, "hopf", -4, -1, 4, -1);
        int c = x.picture();
        x.loose(c, 3);
        due.is("bracket of circles", x.bracket(c), 3);
        numbers(x, "circles", -4, 1, 0, 2, 4, 1);
        due.is("bracket of a kink", x.bracket(House.kinks(x, 1)), 1);
        numbers(x, "kink", -3, -1);
        long before = x.at(-3);
        int e = x.picture();
        due.refused(x, "nothing", x.bracket(e), EMPTY);
        due.refused(x, "no picture", x.bracket(99), BAD);
        due.refused(x, "open", x.bracket(openOne(x)), OPEN);
        due.refused(x, "15 crossings", x.bracket(House.kinks(x, 15)), GREAT);
        due.is("what is refused leaves the result", x.at(-3), before);
        int work = x.count(4);
        due.is("14 crossings", x.bracket(House.kinks(x, 14)), 1);
        due.is("work", x.count(4) - work, 16384);
        numbers(x, "14 kinks", -42, 1);
    }

    private static void promise21Parts() {
        KnotTable x = new KnotTable();
        int p = x.picture();
        for (int c = 0; c < 14; c++) {
            x.crossing(p, 2 * c, 2 * c + 1, 2 * c + 1, 2 * c);
        }
        x.loose(p, 9);
        due.is("14 parts and 9 circles", x.bracket(p), 23);
        due.is("lowest", x.power(0), -2 * 22 - 42);
        due.is("highest", x.power(1), 2 * 22 - 42);
        due.is("lowest number", x.at(-86), 1);
        due.is("in the middle", x.at(-42), 705432);
        due.is("polynomial", x.polynomial(p), 23);
        due.is("in the middle", x.at(0), 705432);
        x.mirror(p);
        x.bracket(p);
        due.is("highest", x.power(1), 86);
        due.is("in the middle", x.at(42), 705432);
    }

    private static void promise22Polynomial() {
        KnotTable x = new KnotTable();
        int t = House.knot(x, House.TREFOIL);
        due.is("trefoil", x.polynomial(t), 3);
        numbers(x, "trefoil", -16, -1, -12, 1, -4, 1);
        due.is("eight", x.polynomial(House.knot(x, House.FIGURE_EIGHT)), 5);
        numbers(x, "eight", -8, 1, -4, -1, 0, 1, 4, -1, 8, 1);
        due.is("five", x.polynomial(House.braid(x, 5)), 5);
        numbers(x, "five", -28, -1, -24, 1, -20, -1, -16, 1, -8, 1);
        due.is("kinks", x.polynomial(House.kinks(x, 5)), 1);
        numbers(x, "kinks", 0, 1);
        due.is("hopf", x.polynomial(House.knot(x, House.HOPF)), 2);
        numbers(x, "hopf", 2, -1, 10, -1);
        due.refused(x, "nothing", x.polynomial(x.picture()), EMPTY);
        due.refused(x, "no picture", x.polynomial(-1), BAD);
        due.refused(x, "open", x.polynomial(openOne(x)), OPEN);
        due.refused(x, "15 crossings", x.polynomial(House.kinks(x, 15)), GREAT);
        numbers(x, "hopf still", 2, -1, 10, -1);
    }

    private static void promise23At() {
        KnotTable x = new KnotTable();
        due.is("no result", x.at(0), 0);
        x.bracket(House.knot(x, House.CIRCLE));
        due.is("at 0", x.at(0), 1);
        int[] beyond = {1, -1, 140, 141, -140, -141, 1000000, Integer.MAX_VALUE, Integer.MIN_VALUE};
        for (int power : beyond) {
            due.is("at " + power, x.at(power), 0);
        }
        x.open(55);
        x.at(0);
        due.is("at() leaves status()", x.status(), BAD);
    }

    private static void promise24Power() {
        KnotTable x = new KnotTable();
        due.refused(x, "no result", x.power(1), NOT);
        due.refused(x, "what = 2, no result", x.power(2), BAD);
        x.polynomial(House.knot(x, House.TREFOIL));
        due.is("lowest", x.power(0), -16);
        due.is("highest", x.power(1), -4);
        due.is("that is no refusal", x.status(), 0);
        due.refused(x, "what = 2", x.power(2), BAD);
        due.refused(x, "what = -1", x.power(-1), BAD);
        x.determinant(0);
        x.name(0);
        x.book(0, 5);
        x.same(0, 0, 5);
        due.is("determinant(), name(), book(), same() leave it", x.power(0), -16);
    }

    private static void promise25Determinant() {
        KnotTable x = new KnotTable();
        due.is("trefoil", x.determinant(House.knot(x, House.TREFOIL)), 3);
        due.is("eight", x.determinant(House.knot(x, House.FIGURE_EIGHT)), 5);
        due.is("hopf", x.determinant(House.knot(x, House.HOPF)), 2);
        due.is("unlink", x.determinant(House.knot(x, House.UNLINK)), 0);
        due.is("circle", x.determinant(House.knot(x, House.CIRCLE)), 1);
        due.is("seven", x.determinant(House.braid(x, 7)), 7);
        due.is("work", x.count(4), 8 + 16 + 4 + 4 + 1 + 128);
        due.refused(x, "there is no result from it", x.power(0), NOT);
        due.refused(x, "nothing", x.determinant(x.picture()), EMPTY);
        due.refused(x, "no picture", x.determinant(99), BAD);
        due.refused(x, "open", x.determinant(openOne(x)), OPEN);
        due.refused(x, "15", x.determinant(House.kinks(x, 15)), GREAT);
    }

    private static void workIsSpent() {
        KnotTable x = new KnotTable();
        int big = House.kinks(x, 14);
        int small = House.kinks(x, 9);
        int circle = House.knot(x, House.CIRCLE);
        for (int k = 0; k < 61; k++) {
            due.is("determinant", x.determinant(big), 1);
        }
        due.is("work", x.count(4), 61 * 16384);
        due.refused(x, "one more", x.bracket(big), SPENT);
        due.refused(x, "one more", x.polynomial(big), SPENT);
        due.refused(x, "one more", x.determinant(big), SPENT);
        due.refused(x, "two of 9 for one call", x.same(small, small, 0), SPENT);
        due.is("what is refused costs nothing", x.count(4), 61 * 16384);
        due.is("one of 9", x.bracket(small), 1);
        due.is("work", x.count(4), 61 * 16384 + 512);
        due.is("two circles for one call", x.same(circle, circle, 0), 1);
        due.is("work", x.count(4), 61 * 16384 + 514);
    }

    private static void workIsSpentToTheLast() {
        KnotTable x = new KnotTable();
        int[] sizes = new int[15];
        for (int n = 0; n <= 14; n++) {
            sizes[n] = n == 0 ? House.knot(x, House.CIRCLE) : House.kinks(x, n);
        }
        int left = 1000000;
        for (int n = 14; n >= 0; n--) {
            while (left >= 1 << n) {
                due.is("bracket", x.bracket(sizes[n]), 1);
                left -= 1 << n;
            }
            due.is("count(4)", x.count(4), 1000000 - left);
        }
        due.is("all is spent", x.count(4), 1000000);
        due.refused(x, "bracket", x.bracket(sizes[0]), SPENT);
        due.refused(x, "polynomial", x.polynomial(sizes[1]), SPENT);
        due.refused(x, "determinant", x.determinant(sizes[0]), SPENT);
        due.refused(x, "name", x.name(sizes[0]), SPENT);
        due.refused(x, "book", x.book(sizes[0], 7), SPENT);
        due.refused(x, "same", x.same(sizes[0], sizes[1], 5), SPENT);
        due.refused(x, "great ahead of spent", x.name(sizes[11]), GREAT);
        due.refused(x, "empty ahead of spent", x.bracket(x.picture()), EMPTY);
        due.is("findings(9)", x.findings(9), 6);
        due.is("all is spent still", x.count(4), 1000000);
        due.is("a number ahead of 6 parts", x.same(sizes[0], House.knot(x, House.TREFOIL), 5), 0);
        due.is("parted", x.parted(), 2);
    }

    private static void tape(KnotTable x, String of, int... row) {
        due.is(of + ": numbers", x.count(3), row.length);
        for (int k = 0; k < row.length; k++) {
            due.is(of + ": number " + k, x.item(k), row[k]);
        }
    }

    private static void promise26Gauss() {
        KnotTable x = new KnotTable();
        int t = House.knot(x, House.TREFOIL);
        due.is("trefoil", x.gauss(t), 8);
        tape(x, "trefoil", 11, 5, 3, 9, 7, 1, -1, -2);
        int h = House.knot(x, House.HOPF);
        x.loose(h, 9);
        due.is("hopf", x.gauss(h), 7);
        tape(x, "hopf", 6, 0, -1, 4, 2, -1, -11);
        due.is("nothing", x.gauss(x.picture()), 1);
        tape(x, "nothing", -2);
        due.refused(x, "no picture", x.gauss(77), BAD);
        due.refused(x, "open", x.gauss(openOne(x)), OPEN);
        tape(x, "nothing still", -2);
        int k = x.picture();
        for (int c = 0; c < 40; c++) {
            x.crossing(k, 2 * c, 2 * c + 1, 2 * c + 1, 2 * c);
        }
        due.is("40 pieces", x.gauss(k), 121);
        due.is("redrawn", x.like(k, x.ofGauss()), 1);
    }

    private static void promise27TypeTo29Item() {
        KnotTable x = new KnotTable();
        due.refused(x, "open", x.open(0), BAD);
        for (int k = 1; k <= 130; k++) {
            due.is("type", x.type(k == 7 ? -2 : 1000 * k), k);
        }
        due.is("status()", x.status(), 0);
        due.refused(x, "type 131", x.type(5), FULL);
        due.is("count(3)", x.count(3), 130);
        due.is("item 0", x.item(0), 1000);
        due.is("item 6", x.item(6), -2);
        due.is("item 129", x.item(129), 130000);
        due.is("item 130", x.item(130), BAD);
        due.is("item -1", x.item(-1), BAD);
        due.is("item() leaves status()", x.status(), FULL);
        due.is("clear", x.clear(), 130);
        due.is("clear is not refused", x.status(), 0);
        due.is("clear again", x.clear(), 0);
        due.is("item 0", x.item(0), BAD);
        due.is("type", x.type(Integer.MIN_VALUE), 1);
        due.is("item 0", x.item(0), Integer.MIN_VALUE);
    }

    private static void promise30OfGauss() {
        KnotTable x = new KnotTable();
        due.is("trefoil", House.knot(x, House.TREFOIL), 0);
        tape(x, "the tape stays", House.TREFOIL);
        due.holds("row 0", House.has(x, 0, 0, 2, 0, 3, 5));
        due.holds("row 1", House.has(x, 0, 1, 0, 4, 1, 3));
        due.holds("row 2", House.has(x, 0, 2, 4, 2, 5, 1));
        due.is("eight", House.knot(x, House.FIGURE_EIGHT), 1);
        due.holds("row 2, of sign -1", House.has(x, 1, 2, 6, 1, 7, 2));
        due.is("nothing", House.knot(x, -2), 2);
        due.is("nine circles", House.knot(x, -11), 3);
        due.is("told", x.told(3, 1), 9);
        due.is("a kink", House.knot(x, 0, 2, -1, -4), 4);
        due.is("two pieces", House.knot(x, House.HOPF), 5);
        due.holds("hopf", House.has(x, 5, 0, 1, 2, 0, 3) && House.has(x, 5, 1, 2, 1, 3, 0));
        due.refused(x, "undo of a new one", x.undo(5), NOT);
        long before = x.digest();
        int[][] wrong = {
            {}, {-1}, {0}, {-12}, {-1, -2}, {0, 2, -2}, {0, 2, -1}, {0, 2, -1, -1, -2}, {-1, 0, 2, -1, -2},
            {0, 2, -1, -2, -2}, {0, 2, -1, -12}, {0, 2, -1, Integer.MIN_VALUE}, {0, 0, -1, -2}, {0, 3, -1, -2},
            {2, 2, -1, -2}, {4, 6, -1, -2}, {0, 2, 0, 2, -1, -2}, {0, 2, 1, 3, -1, -2}, {0, -1, -2}, {0, -1, 2, -1, -2},
            {0, 2, 8, 10, -1, -2}, {0, -3, 2, -1, -2}, {0, 4, 2, 6, -1, -2}, {0, 2, 3, -1, -2},
            {Integer.MAX_VALUE, Integer.MAX_VALUE - 2, -1, -2}, {0, 2, -1, 0}, {1, 6, -1, 3, 4, -1, -2},
        };
        for (int[] row : wrong) {
            due.refused(x, "ofGauss of " + java.util.Arrays.toString(row), House.knot(x, row), NOT);
        }
        due.is("digest", x.digest(), before);
        House.knot(x, House.CIRCLE);
        while (x.count(0) < 24) {
            x.picture();
        }
        due.refused(x, "full", x.ofGauss(), FULL);
        x.clear();
        due.refused(x, "full ahead of not", x.ofGauss(), FULL);
    }

    private static void promise30Limits() {
        KnotTable x = new KnotTable();
        for (int n = 39; n <= 42; n++) {
            x.clear();
            for (int c = 0; c < n; c++) {
                x.type(4 * c);
                x.type(4 * c + 2);
            }
            x.type(-1);
            x.type(-2);
            due.is(n + " kinks", x.ofGauss(), n <= 40 ? n - 39 : NOT);
        }
        due.is("told", x.told(1, 0), 40);
        for (int place = 39; place < 200; place += 20) {
            x = new KnotTable();
            for (int c = 0; c < 40; c++) {
                x.type(c < 39 ? 4 * c : 4 * place);
                x.type(c < 39 ? 4 * c + 2 : 4 * place + 2);
            }
            x.type(-1);
            x.type(-2);
            due.is("40 places, the last one is " + place, x.ofGauss(), place == 39 ? 0 : NOT);
        }
    }

    public static void main(String[] args) {
        promise17Sign();
        promise18PieceOf();
        promise19Linking();
        promise20Colours();
        promise21Bracket();
        promise21Parts();
        promise22Polynomial();
        promise23At();
        promise24Power();
        promise25Determinant();
        workIsSpent();
        workIsSpentToTheLast();
        promise26Gauss();
        promise27TypeTo29Item();
        promise30OfGauss();
        promise30Limits();
        due.end("NumbersTest");
    }
}
