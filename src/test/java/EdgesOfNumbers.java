/** Promises 17 to 30: numbers. */
final class EdgesOfNumbers {
    private static final int BAD = Run.BAD, FULL = Run.FULL, BEYOND = Run.BEYOND, OPEN = Run.OPEN, NOT = Run.NOT;
    private static final int EMPTY = Run.EMPTY, GREAT = Run.GREAT, SPENT = Run.SPENT;

    private EdgesOfNumbers() {
    }

    @Sentence(of = "Promise 17", says = "SIGN.")
    static void signOfEach() {
        Run x = new Run();
        int p = x.knot(3, 5, 10, 12, 7, 1, 14, 8, -1, -2);
        int[] due = {1, 1, -1, -1};
        for (int c = 0; c < 4; c++) {
            x.is(x.sign(p, c), due[c]);
        }
        x.mirror(p);
        for (int c = 0; c < 4; c++) {
            x.is(x.sign(p, c), -due[c]);
        }
        int big = x.kinks(40);
        x.is(x.sign(big, 0), -1);
        x.is(x.sign(big, 39), -1);
    }

    @Sentence(of = "Promise 17", says = "BAD; OPEN; BEYOND.")
    static void signRefused() {
        Run x = new Run();
        int p = x.kinks(2);
        int open = x.openOne();
        x.no(x.sign(p, -1), BEYOND);
        x.is(x.sign(p, 0), -1);
        x.is(x.sign(p, 1), -1);
        x.no(x.sign(p, 2), BEYOND);
        x.no(x.sign(open, 0), OPEN);
        x.no(x.sign(open, 1), OPEN);
        x.no(x.sign(-1, 9), BAD);
        x.no(x.sign(2, 9), BAD);
        x.no(x.sign(x.circles(1), 0), BEYOND);
        for (int far : Run.FAR) {
            x.no(x.sign(far, 0), BAD);
            x.no(x.sign(p, far), BEYOND);
        }
    }

    @Sentence(of = "Promise 18", says = "Of which PIECE an END is.")
    static void pieceOfEach() {
        Run x = new Run();
        int p = x.parts(40);
        for (int c = 0; c < 40; c += 13) {
            x.is(x.pieceOf(p, 4 * c), c);
            x.is(x.pieceOf(p, 4 * c + 3), c);
        }
        int b = x.braid(40);
        for (int e = 0; e < 8; e++) {
            // each strand goes under at one CROSSING and over at the next
            x.is(x.pieceOf(b, e), (e + e / 4) % 2);
        }
    }

    @Sentence(of = "Promise 18", says = "BAD; OPEN; BEYOND.")
    static void pieceOfRefused() {
        Run x = new Run();
        int p = x.kinks(2);
        int open = x.openOne();
        x.no(x.pieceOf(p, -1), BEYOND);
        x.is(x.pieceOf(p, 0), 0);
        x.is(x.pieceOf(p, 7), 0);
        x.no(x.pieceOf(p, 8), BEYOND);
        x.no(x.pieceOf(open, 0), OPEN);
        x.no(x.pieceOf(open, 4), OPEN);
        x.no(x.pieceOf(-1, 99), BAD);
        x.no(x.pieceOf(2, 99), BAD);
        x.no(x.pieceOf(x.circles(1), 0), BEYOND);
        for (int far : Run.FAR) {
            x.no(x.pieceOf(far, 0), BAD);
            x.no(x.pieceOf(p, far), BEYOND);
        }
    }

    @Sentence(of = "Promise 19", says = "LINKING of two PIECES (LOOSE ones, too: 0).")
    static void linkingOfLooseOnes() {
        Run x = new Run();
        int p = x.braid(2);
        x.is(x.linking(p, 0, 1), -1);
        x.loose(p, 1);
        x.is(x.linking(p, 0, 1), -1);
        x.is(x.linking(p, 0, 2), 0);
        x.is(x.linking(p, 2, 1), 0);
        int c = x.circles(9);
        x.is(x.linking(c, 0, 8), 0);
        x.is(x.linking(c, 8, 7), 0);
        x.is(x.linking(x.parts(40), 39, 0), 0);
    }

    @Sentence(of = "Promise 19", says = "BAD; OPEN; NOT: no such PIECES, or one twice.")
    static void linkingRefused() {
        Run x = new Run();
        int p = x.braid(2);
        x.loose(p, 1);
        int open = x.openOne();
        x.no(x.linking(p, -1, 0), NOT);
        x.no(x.linking(p, 0, -1), NOT);
        x.is(x.linking(p, 2, 0), 0);
        x.no(x.linking(p, 3, 0), NOT);
        x.no(x.linking(p, 0, 3), NOT);
        for (int i = 0; i <= 3; i++) {
            x.no(x.linking(p, i, i), NOT);
        }
        x.no(x.linking(x.picture(), 0, 1), NOT);
        x.no(x.linking(x.circles(1), 0, 1), NOT);
        x.no(x.linking(open, 0, 0), OPEN);
        x.no(x.linking(-1, 0, 0), BAD);
        x.no(x.linking(5, 0, 0), BAD);
        for (int far : Run.FAR) {
            x.no(x.linking(p, far, 0), NOT);
            x.no(x.linking(p, 0, far), NOT);
            x.no(x.linking(far, 0, 1), BAD);
        }
    }

    @Sentence(of = "Promise 20", says = "COLOURS: to which power.")
    static void coloursToWhichPower() {
        Run x = new Run();
        x.is(x.colours(x.picture(), 3), 0);
        x.is(x.colours(x.circles(1), 3), 1);
        x.is(x.colours(x.braid(3), 3), 2);
        x.is(x.colours(x.braid(5), 5), 2);
        x.is(x.colours(x.braid(7), 7), 2);
        x.is(x.colours(x.braid(11), 11), 2);
        x.is(x.colours(x.braid(39), 3), 2);
        x.is(x.colours(x.braid(40), 5), 2);
        x.is(x.colours(x.braid(40), 3), 1);
        int p = x.parts(40);
        x.loose(p, 9);
        x.is(x.colours(p, 7), 49);
    }

    @Sentence(of = "Promise 20", says = "BAD: also another m; OPEN.")
    static void coloursRefused() {
        Run x = new Run();
        int p = x.kinks(1);
        int open = x.openOne();
        int[] others = {-3, 0, 1, 2, 4, 6, 8, 9, 10, 12, 13, Integer.MIN_VALUE, Integer.MAX_VALUE};
        for (int m : others) {
            x.no(x.colours(p, m), BAD);
            x.no(x.colours(open, m), BAD);
        }
        int[] by = {3, 5, 7, 11};
        for (int m : by) {
            x.is(x.colours(p, m), 1);
            x.no(x.colours(open, m), OPEN);
            x.no(x.colours(-1, m), BAD);
            x.no(x.colours(2, m), BAD);
        }
    }

    @Sentence(of = "Promise 21", says = "THE RESULT is the BRACKET: how many of its numbers are not 0.")
    static void bracketNumbers() {
        Run x = new Run();
        for (int n = 1; n <= 9; n++) {
            int p = x.circles(n);
            x.is(x.bracket(p), n);
            x.is(x.power(0), 2 - 2 * n);
            x.is(x.power(1), 2 * n - 2);
        }
        int t = x.braid(3);
        x.is(x.bracket(t), 3);
        // a kink follows: nothing of the one before is left
        x.is(x.bracket(x.kinks(1)), 1);
        x.is(x.at(-3), -1);
        x.is(x.power(0), -3);
        x.is(x.power(1), -3);
        x.is(x.bracket(x.kinks(14)), 1);
    }

    /** The chain that bracket(), polynomial() and determinant() share. */
    private static void refusedBrackets(int call) {
        Run x = new Run();
        int k = x.kinks(1);
        int e = x.picture();
        int fourteen = x.kinks(14);
        int fifteen = x.kinks(15);
        int open = x.twin(fifteen);
        x.put(open, 0, 0, -1);
        int none = x.openOne();
        x.no(ask(x, call, -1), BAD);
        x.no(ask(x, call, 6), BAD);
        x.no(ask(x, call, open), OPEN);
        x.no(ask(x, call, none), OPEN);
        x.no(ask(x, call, e), EMPTY);
        x.no(ask(x, call, fifteen), GREAT);
        x.is(x.count(4), 0);
        x.is(ask(x, call, fourteen), 1);
        x.is(x.count(4), 16384);
        x.no(ask(x, call, x.kinks(40)), GREAT);
        x.loose(e, 1);
        x.is(ask(x, call, e), 1);
        x.loose(e, 0);
        x.spendAllBut(2);
        x.is(ask(x, call, k), 1);
        x.no(ask(x, call, k), SPENT);
        x.no(ask(x, call, e), EMPTY);
        x.no(ask(x, call, fifteen), GREAT);
        x.no(ask(x, call, open), OPEN);
        x.no(ask(x, call, 99), BAD);
        for (int far : Run.FAR) {
            x.no(ask(x, call, far), BAD);
        }
        x.is(x.count(4), 1000000);
    }

    private static long ask(Run x, int call, int p) {
        return call == 0 ? x.bracket(p) : call == 1 ? x.polynomial(p) : x.determinant(p);
    }

    @Sentence(of = "Promise 21", says = "BAD; OPEN; EMPTY; GREAT: above 14; SPENT.")
    static void bracketRefused() {
        refusedBrackets(0);
        Run x = new Run();
        x.bracket(x.circles(2));
        x.no(x.bracket(x.picture()), EMPTY);
        x.is(x.at(2), -1);
        x.is(x.power(1), 2);
    }

    @Sentence(of = "Promise 22", says = "THE RESULT is the POLYNOMIAL, likewise.")
    static void polynomialLikewise() {
        Run x = new Run();
        int k = x.kinks(1);
        x.is(x.polynomial(k), 1);
        x.is(x.at(0), 1);
        x.is(x.power(0), 0);
        x.is(x.power(1), 0);
        x.is(x.bracket(k), 1);
        x.is(x.at(0), 0);
        x.is(x.polynomial(x.circles(9)), 9);
        x.is(x.at(0), 70);
        x.no(x.polynomial(x.picture()), EMPTY);
        x.is(x.at(0), 70);
        refusedBrackets(1);
    }

    @Sentence(of = "Promise 23", says = "Of THE RESULT the number at a power (0 where there is none).")
    static void atAPower() {
        Run x = new Run();
        int[] far = {-1000, 1000, Integer.MIN_VALUE, Integer.MIN_VALUE + 1, Integer.MAX_VALUE - 1, Integer.MAX_VALUE};
        for (int power : far) {
            x.is(x.at(power), 0);
        }
        x.is(x.at(0), 0);
        // the lowest and the highest power that can come, and the powers beside them
        int p = x.parts(14);
        x.loose(p, 9);
        x.bracket(p);
        long[] due = {0, 0, 0, 0, 1, 0, 0, 0, 22};
        for (int k = 0; k < due.length; k++) {
            x.is(x.at(-90 + k), due[k]);
        }
        x.mirror(p);
        x.bracket(p);
        for (int k = 0; k < due.length; k++) {
            x.is(x.at(90 - k), due[k]);
        }
        for (int power = 120; power <= 160; power++) {
            x.is(x.at(power), 0);
            x.is(x.at(-power), 0);
        }
        for (int power : far) {
            x.is(x.at(power), 0);
        }
        x.no(x.open(77), BAD);
        x.at(0);
        x.hold(x.status() == BAD, "at() leaves status()");
    }

    @Sentence(of = "Promise 24", says = "The lowest power (what = 0), the highest (1) at which THE RESULT has a number that is not"
            + " 0.")
    static void powersOfTheResult() {
        Run x = new Run();
        x.bracket(x.circles(1));
        x.is(x.power(0), 0);
        x.is(x.power(1), 0);
        int p = x.parts(14);
        x.loose(p, 9);
        x.bracket(p);
        x.is(x.power(0), -86);
        x.is(x.power(1), 2);
        x.mirror(p);
        x.bracket(p);
        x.is(x.power(0), -2);
        x.is(x.power(1), 86);
        // behind a wider one: what was there is gone
        x.polynomial(x.braid(3));
        x.is(x.power(0), -16);
        x.is(x.power(1), -4);
    }

    @Sentence(of = "Promise 24", says = "BAD; NOT: there is no RESULT.")
    static void powerRefused() {
        Run x = new Run();
        int c = x.circles(1);
        x.no(x.power(-1), BAD);
        x.no(x.power(0), NOT);
        x.no(x.power(1), NOT);
        x.no(x.power(2), BAD);
        // neither what stays nor what is refused makes one
        x.determinant(c);
        x.book(c, 5);
        x.name(c);
        x.same(c, c, 0);
        x.bracket(x.picture());
        x.no(x.power(0), NOT);
        x.bracket(c);
        x.is(x.power(0), 0);
        x.is(x.power(1), 0);
        x.no(x.power(-1), BAD);
        x.no(x.power(2), BAD);
        for (int far : Run.FAR) {
            x.no(x.power(far), BAD);
        }
    }

    @Sentence(of = "Promise 25", says = "DETERMINANT; THE RESULT stays.")
    static void determinantLeavesTheResult() {
        Run x = new Run();
        x.bracket(x.circles(2));
        x.is(x.determinant(x.braid(7)), 7);
        x.is(x.at(2), -1);
        x.is(x.at(-2), -1);
        x.is(x.power(0), -2);
        x.is(x.power(1), 2);
        x.is(x.determinant(x.circles(2)), 0);
        x.is(x.determinant(x.circles(1)), 1);
        x.is(x.determinant(x.kinks(14)), 1);
        x.is(x.determinant(x.braid(14)), 14);
    }

    @Sentence(of = "Promise 25", says = "As bracket().")
    static void determinantRefused() {
        refusedBrackets(2);
    }

    private static void tape(Run x, int... numbers) {
        x.is(x.count(3), numbers.length);
        for (int k = 0; k < numbers.length; k++) {
            x.is(x.item(k), numbers[k]);
        }
        x.is(x.item(numbers.length), BAD);
    }

    @Sentence(of = "Promise 26", says = "THE TAPE, 130 numbers at most, becomes the Gauss row:")
    static void gaussFillsTheTape() {
        Run x = new Run();
        for (int k = 0; k < 130; k++) {
            x.type(7);
        }
        x.no(x.type(7), FULL);
        x.is(x.gauss(x.kinks(1)), 4);
        tape(x, 2, 0, -1, -2);
        x.is(x.type(5), 5);
        // the longest row that a PICTURE has: 40 PIECES of two passes
        int most = x.parts(40);
        x.is(x.gauss(most), 121);
        x.is(x.count(3), 121);
        for (int k = 122; k <= 130; k++) {
            x.is(x.type(0), k);
        }
        x.no(x.type(0), FULL);
    }

    @Sentence(of = "Promise 26", says = "of each PIECE with CROSSINGS in order, from its beginning on (the END at which it goes"
            + " out first belongs to the pass that comes last),")
    static void gaussOfEachPiece() {
        Run x = new Run();
        // END 0 goes out first, to CROSSING 1: the pass under CROSSING 0 comes last
        x.is(x.gauss(x.kinks(2)), 6);
        tape(x, 6, 4, 2, 0, -1, -2);
        x.is(x.gauss(x.parts(2)), 7);
        tape(x, 2, 0, -1, 6, 4, -1, -2);
        x.is(x.gauss(x.picture()), 1);
        tape(x, -2);
        x.is(x.gauss(x.circles(9)), 1);
        tape(x, -11);
        // the row of a Hopf link: the first PIECE goes to CROSSING 1 first, and over
        x.is(x.gauss(x.braid(2)), 7);
        tape(x, 6, 0, -1, 4, 2, -1, -2);
    }

    @Sentence(of = "Promise 26", says = "for each pass 4 times the PLACE, 2 more when it goes over, 1 more when the SIGN is 1; -1"
            + " behind each;")
    static void gaussPasses() {
        Run x = new Run();
        // SIGN -1, SIGN 1, over and under
        x.is(x.gauss(x.rows(new int[] {0, 1, 1, 3}, new int[] {0, 3, 2, 2})), 6);
        tape(x, 5, 7, 2, 0, -1, -2);
        int big = x.kinks(40);
        x.is(x.gauss(big), 82);
        x.is(x.item(0), 4 * 39 + 2);
        x.is(x.item(79), 0);
        x.is(x.item(80), -1);
        x.mirror(big);
        x.is(x.gauss(big), 82);
        int odd = 0;
        for (int k = 0; k < 80; k++) {
            odd += x.item(k) & 1;
        }
        x.hold(odd == 80, "all have SIGN 1");
    }

    @Sentence(of = "Promise 26", says = "at last -2 less how many LOOSE circles: how many numbers.")
    static void gaussEndsWithCircles() {
        Run x = new Run();
        int p = x.kinks(1);
        for (int n = 0; n <= 9; n++) {
            x.loose(p, n);
            x.is(x.gauss(p), 4);
            tape(x, 2, 0, -1, -2 - n);
        }
    }

    @Sentence(of = "Promise 26", says = "BAD; OPEN.")
    static void gaussRefused() {
        Run x = new Run();
        x.type(55);
        x.no(x.gauss(0), BAD);
        int p = x.openOne();
        x.no(x.gauss(-1), BAD);
        x.no(x.gauss(1), BAD);
        x.no(x.gauss(p), OPEN);
        x.no(x.gauss(x.rows(new int[] {0, 1, 0, 1})), OPEN);
        tape(x, 55);
        x.is(x.gauss(x.picture()), 1);
    }

    @Sentence(of = "Promise 27", says = "A number behind THE TAPE: how many.")
    static void typed() {
        Run x = new Run();
        int[] numbers = {0, -1, -2, -3, Integer.MAX_VALUE, Integer.MIN_VALUE, -15};
        for (int k = 0; k < numbers.length; k++) {
            x.is(x.type(numbers[k]), k + 1);
        }
        tape(x, numbers);
        x.clear();
        x.is(x.type(9), 1);
        tape(x, 9);
    }

    @Sentence(of = "Promise 27", says = "FULL.")
    static void typeFull() {
        Run x = new Run();
        for (int k = 1; k <= 130; k++) {
            x.is(x.type(k), k);
        }
        x.no(x.type(131), FULL);
        x.is(x.count(3), 130);
        x.is(x.item(129), 130);
        x.is(x.item(130), BAD);
        x.clear();
        x.is(x.type(1), 1);
    }

    @Sentence(of = "Promise 28", says = "THE TAPE is emptied: how many.")
    static void cleared() {
        Run x = new Run();
        x.is(x.clear(), 0);
        x.type(5);
        x.is(x.clear(), 1);
        x.is(x.count(3), 0);
        x.is(x.item(0), BAD);
        x.is(x.clear(), 0);
        for (int k = 0; k < 130; k++) {
            x.type(k);
        }
        x.is(x.clear(), 130);
        x.is(x.count(3), 0);
        x.no(x.ofGauss(), NOT);
    }

    @Sentence(of = "Promise 29", says = "Number k of THE TAPE (it may be -2, too).")
    static void items() {
        Run x = new Run();
        x.type(-2);
        x.type(-3);
        x.type(-2);
        tape(x, -2, -3, -2);
        x.hold(x.status() == 0, "-2 is no refusal");
    }

    @Sentence(of = "Promise 29", says = "BAD: none such.")
    static void itemBad() {
        Run x = new Run();
        x.is(x.item(0), BAD);
        x.type(7);
        x.is(x.item(-1), BAD);
        x.is(x.item(0), 7);
        x.is(x.item(1), BAD);
        for (int far : Run.FAR) {
            x.is(x.item(far), BAD);
        }
        x.hold(x.status() == 0, "item() leaves status()");
        for (int k = 1; k < 130; k++) {
            x.type(k);
        }
        x.is(x.item(129), 129);
        x.is(x.item(130), BAD);
    }

    @Sentence(of = "Promise 30", says = "A new PICTURE of THE TAPE, which stays:")
    static void ofGaussLeavesTheTape() {
        Run x = new Run();
        x.is(x.knot(0, 2, -1, -2), 0);
        tape(x, 0, 2, -1, -2);
        x.is(x.ofGauss(), 1);
        tape(x, 0, 2, -1, -2);
        x.is(x.like(0, 1), 1);
        x.no(x.undo(1), NOT);
        x.is(x.knot(-2), 2);
        x.looks(2, 0);
    }

    @Sentence(of = "Promise 30", says = "pass k (from 0 on, of all) goes out by ARC k; a CROSSING at each PLACE: with ARCS a, b in"
            + " and out below, c, d above: a d b c when the SIGN is 1, else a c b d.")
    static void ofGaussRows() {
        Run x = new Run();
        x.looks(x.knot(0, 2, -1, -2), 0, "1 0 0 1");
        x.looks(x.knot(2, 0, -1, -2), 0, "0 1 1 0");
        x.looks(x.knot(1, 3, -1, -2), 0, "1 1 0 0");
        x.looks(x.knot(3, 1, -1, -2), 0, "0 0 1 1");
        // passes are counted through all PIECES
        x.looks(x.knot(0, 2, -1, 6, 4, -1, -4), 2, "1 0 0 1", "2 3 3 2");
        x.looks(x.knot(1, 7, -1, 3, 5, -1, -2), 0, "1 2 0 3", "2 1 3 0");
        x.clear();
        for (int c = 0; c < 40; c++) {
            x.type(4 * c);
            x.type(4 * c + 2);
        }
        x.type(-1);
        x.type(-2);
        int most = x.ofGauss();
        x.is(x.end(most, 0, 0), 79);
        x.is(x.end(most, 39, 3), 79);
        x.is(x.end(most, 39, 0), 77);
    }

    @Sentence(of = "Promise 30", says = "FULL; NOT: no such row")
    static void ofGaussFull() {
        Run x = new Run();
        x.no(x.ofGauss(), NOT);
        x.fillPictures(23);
        x.no(x.ofGauss(), NOT);
        x.type(-2);
        x.is(x.ofGauss(), 23);
        x.no(x.ofGauss(), FULL);
        x.clear();
        x.no(x.ofGauss(), FULL);
    }

    private static void rows(Run x, boolean so, int[]... rows) {
        for (int[] row : rows) {
            int answer = x.knot(row);
            if (so) {
                x.is(answer, x.count(0) - 1);
            } else {
                x.no(answer, NOT);
            }
        }
    }

    @Sentence(of = "Promise 30", says = "(a PIECE has a pass;")
    static void ofGaussPieces() {
        Run x = new Run();
        rows(x, true, new int[] {-2}, new int[] {0, 2, -1, -2}, new int[] {0, 2, -1, 4, 6, -1, -2});
        rows(x, false, new int[] {-1, -2}, new int[] {-1, -1, -2}, new int[] {0, 2, -1, -1, -2},
                new int[] {-1, 0, 2, -1, -2}, new int[] {0, 2, -1, -1, 4, 6, -1, -2}, new int[] {0, 2, -2},
                new int[] {0, 2, -1, 4, 6, -2}, new int[] {0, -1, 2, -1, -2});
    }

    private static int kinksRow(Run x, int n, int lastPlace) {
        x.clear();
        for (int c = 0; c < n; c++) {
            int place = c == n - 1 ? lastPlace : c;
            x.type(4 * place);
            x.type(4 * place + 2);
        }
        x.type(-1);
        x.type(-2);
        return x.ofGauss();
    }

    @Sentence(of = "Promise 30", says = "PLACES 0 .. are there twice each, 40 at most, once over, with one SIGN;")
    static void ofGaussPlaces() {
        Run x = new Run();
        rows(x, true, new int[] {0, 2, -1, -2}, new int[] {1, 3, -1, -2}, new int[] {0, 2, 4, 6, -1, -2});
        // once, or three times, or four
        rows(x, false, new int[] {0, -1, -2}, new int[] {0, 2, 4, -1, -2}, new int[] {0, 2, 2, -1, -2},
                new int[] {0, 2, 0, 2, -1, -2}, new int[] {0, 2, 1, 3, -1, -2});
        // not from 0 on
        rows(x, false, new int[] {4, 6, -1, -2}, new int[] {0, 2, 8, 10, -1, -2},
                new int[] {Integer.MAX_VALUE, Integer.MAX_VALUE - 2, -1, -2}, new int[] {0, 2, 160, 162, -1, -2});
        // over twice, or not at all
        rows(x, false, new int[] {0, 0, -1, -2}, new int[] {2, 2, -1, -2}, new int[] {1, 1, -1, -2},
                new int[] {3, 3, -1, -2});
        // with two SIGNS
        rows(x, false, new int[] {0, 3, -1, -2}, new int[] {1, 2, -1, -2}, new int[] {0, 1, -1, -2},
                new int[] {2, 3, -1, -2});
        Run y = new Run();
        y.is(kinksRow(y, 39, 38), 0);
        y.is(kinksRow(y, 40, 39), 1);
        y.is(y.told(1, 0), 40);
        y.no(kinksRow(y, 41, 40), NOT);
        // a TAPE that is full: 80 passes in 49 PIECES, and the first pass has no fellow
        y = new Run();
        y.type(0);
        for (int k = 0; k < 79; k++) {
            y.type(8 + 4 * (k / 2) + 2 * (k % 2));
            if (k >= 30) {
                y.type(-1);
            }
        }
        y.is(y.type(-2), 130);
        y.no(y.ofGauss(), NOT);
        y = new Run();
        y.no(kinksRow(y, 40, 40), NOT);
        y.no(kinksRow(y, 40, 38), NOT);
        y.no(kinksRow(y, 63, 62), NOT);
    }

    @Sentence(of = "Promise 30", says = "it ends with LOOSE circles 0 .. 9),")
    static void ofGaussCircles() {
        Run x = new Run();
        for (int n = 0; n <= 9; n++) {
            x.looks(x.knot(-2 - n), n);
        }
        rows(x, false, new int[] {-12}, new int[] {-13}, new int[] {-1}, new int[] {0}, new int[] {},
                new int[] {Integer.MIN_VALUE}, new int[] {Integer.MAX_VALUE}, new int[] {0, 2, -1},
                new int[] {0, 2, -1, -12}, new int[] {0, 2, -1, 0}, new int[] {0, 2, -1, -2, -2}, new int[] {-2, -2},
                new int[] {-3, 0, 2, -1, -2}, new int[] {0, 2, -2, -1, -2});
        x.is(x.told(x.knot(0, 2, -1, -11), 1), 9);
    }

    @Sentence(of = "Promise 30", says = "or it is not FLAT.")
    static void ofGaussFlat() {
        Run x = new Run();
        rows(x, true, new int[] {0, 2, 4, 6, -1, -2}, new int[] {0, 4, 6, 2, -1, -2});
        rows(x, false, new int[] {0, 4, 2, 6, -1, -2}, new int[] {1, 6, -1, 3, 4, -1, -2}, new int[] {0, -1, 2, -1, -2});
        // a trefoil's row, and the same with one SIGN other
        rows(x, true, new int[] {3, 5, 11, 1, 7, 9, -1, -2});
        rows(x, false, new int[] {2, 5, 11, 0, 7, 9, -1, -2});
    }
}
