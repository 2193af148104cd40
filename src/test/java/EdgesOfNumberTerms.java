/** Part 2 of the terms: PIECES, SIGNS, COLOURS, BRACKETS, WORK. */
final class EdgesOfNumberTerms {
    private static final int BAD = Run.BAD, BEYOND = Run.BEYOND, OPEN = Run.OPEN, NOT = Run.NOT, SPENT = Run.SPENT;
    private static final int[] BY = {3, 5, 7, 11};

    private EdgesOfNumberTerms() {
    }

    @Sentence(of = "Terms 2", says = "PIECES of a WHOLE PICTURE: from an END out along its ARC to the OTHER one, there over to"
            + " the END opposite (+ 2), out again.")
    static void piecesGoStraightOn() {
        Run x = new Run();
        // END 0 by arc 0 to (1, 1), over to (1, 3), by arc 3 to (0, 2), over to END 0
        int p = x.braid(2);
        int[] piece = {0, 1, 0, 1, 1, 0, 1, 0};
        for (int e = 0; e < 8; e++) {
            x.is(x.pieceOf(p, e), piece[e]);
        }
        x.no(x.pieceOf(p, 8), BEYOND);
        x.is(x.told(x.braid(3), 2), 1);
        x.is(x.told(x.braid(1), 2), 1);
        x.is(x.told(x.braid(40), 2), 2);
        x.is(x.told(x.picture(), 2), 0);
        x.put(p, 0, 0, -1);
        x.no(x.told(p, 2), OPEN);
        x.no(x.pieceOf(p, 0), OPEN);
    }

    @Sentence(of = "Terms 2", says = "They are numbered by their least END, which goes out first (that says which way they"
            + " go);")
    static void piecesAreNumberedByTheirLeastEnd() {
        Run x = new Run();
        int p = x.parts(3);
        for (int e = 0; e < 12; e++) {
            x.is(x.pieceOf(p, e), e / 4);
        }
        // the row says SIGN 1, but both pieces go out at the CROSSING at PLACE 0: there they come in at 2 and 3
        int h = x.knot(1, 7, -1, 3, 5, -1, -2);
        x.is(x.sign(h, 0), -1);
        x.is(x.sign(h, 1), -1);
        // a kink at PLACE 0 leads one piece out the one way or the other, the second one's way stays
        int one = x.rows(new int[] {5, 9, 9, 6}, new int[] {5, 2, 3, 1}, new int[] {2, 6, 1, 3});
        int other = x.rows(new int[] {5, 9, 9, 6}, new int[] {6, 2, 3, 1}, new int[] {2, 5, 1, 3});
        x.is(x.open(one), 0);
        x.is(x.open(other), 0);
        x.is(x.sign(one, 1), 1);
        x.is(x.sign(other, 1), -1);
    }

    @Sentence(of = "Terms 2", says = "LOOSE ones come behind.")
    static void looseOnesComeBehind() {
        Run x = new Run();
        int p = x.braid(2);
        x.loose(p, 2);
        x.is(x.told(p, 2), 4);
        x.is(x.linking(p, 0, 1), -1);
        x.is(x.linking(p, 0, 2), 0);
        x.is(x.linking(p, 1, 3), 0);
        x.no(x.linking(p, 3, 4), NOT);
        x.is(x.pieceOf(p, 1), 1);
        x.loose(p, 0);
        x.no(x.linking(p, 1, 2), NOT);
    }

    @Sentence(of = "Terms 2", says = "SIGN of a CROSSING: with i the END (0 or 2) at which the lower strand comes in: 1 if the"
            + " upper one comes in at i + 3, -1 at i + 1.")
    static void signs() {
        Run x = new Run();
        // i = 2, the upper one at 3
        x.is(x.sign(x.rows(new int[] {0, 1, 1, 0}), 0), -1);
        // i = 2, the upper one at 1
        x.is(x.sign(x.rows(new int[] {1, 1, 0, 0}), 0), 1);
        // i = 0, the upper one at 1
        x.is(x.sign(x.rows(new int[] {0, 1, 1, 3}, new int[] {0, 2, 2, 3}), 1), -1);
        // i = 0, the upper one at 3
        x.is(x.sign(x.rows(new int[] {0, 1, 1, 3}, new int[] {0, 3, 2, 2}), 1), 1);
    }

    @Sentence(of = "Terms 2", says = "WRITHE: the sum of SIGNS.")
    static void writhe() {
        Run x = new Run();
        x.is(x.told(x.picture(), 5), 0);
        x.is(x.told(x.circles(9), 5), 0);
        x.is(x.told(x.kinks(1), 5), -1);
        x.is(x.told(x.rows(new int[] {0, 1, 1, 3}, new int[] {0, 3, 2, 2}), 5), 0);
        int p = x.kinks(40);
        x.is(x.told(p, 5), -40);
        x.mirror(p);
        x.is(x.told(p, 5), 40);
    }

    @Sentence(of = "Terms 2", says = "LINKING of two PIECES: the sum of SIGNS of CROSSINGS of both, by 2.")
    static void linking() {
        Run x = new Run();
        x.is(x.linking(x.parts(2), 0, 1), 0);
        x.is(x.linking(x.knot(1, 4, -1, 3, 6, -1, -2), 0, 1), 0);
        x.is(x.linking(x.braid(2), 0, 1), -1);
        x.is(x.linking(x.braid(4), 1, 0), -2);
        x.is(x.linking(x.braid(40), 0, 1), -20);
        // the kink at PLACE 0 has a SIGN, too, but is of one PIECE alone
        int p = x.rows(new int[] {5, 9, 9, 6}, new int[] {5, 2, 3, 1}, new int[] {2, 6, 1, 3});
        x.is(x.linking(p, 0, 1), 1);
        x.is(x.linking(p, 1, 0), 1);
    }

    @Sentence(of = "Terms 2", says = "COLOURS by m (3, 5, 7, 11):")
    static void colourCounts() {
        Run x = new Run();
        int p = x.braid(3);
        for (int m = -12; m <= 34; m++) {
            int answer = x.colours(p, m);
            if (m == 3 || m == 5 || m == 7 || m == 11) {
                x.is(answer, m == 3 ? 2 : 1);
            } else {
                x.no(answer, BAD);
            }
        }
    }

    @Sentence(of = "Terms 2", says = "how many ways there are to give each STRAND (ARCS that go over at one CROSSING are one;"
            + " each LOOSE circle is one) a number 0 .. m - 1,")
    static void strands() {
        Run x = new Run();
        for (int m : BY) {
            x.is(x.colours(x.picture(), m), 0);
            x.is(x.colours(x.circles(1), m), 1);
            x.is(x.colours(x.circles(9), m), 9);
        }
        int big = x.parts(40);
        int kinks = x.kinks(40);
        x.is(x.colours(big, 3), 40);
        x.is(x.colours(kinks, 11), 1);
        x.loose(big, 9);
        x.is(x.colours(big, 11), 49);
        // a circle that lies above another one at both CROSSINGS: one strand that comes round
        x.is(x.colours(x.knot(1, 4, -1, 3, 6, -1, -2), 3), 2);
        // twenty of these: 60 strands, the most that 40 CROSSINGS can have
        int most = x.picture();
        for (int arc = 0; arc < 80; arc += 4) {
            x.crossing(most, arc + 1, arc + 2, arc, arc + 3);
            x.crossing(most, arc, arc + 2, arc + 1, arc + 3);
        }
        x.loose(most, 9);
        for (int m : BY) {
            x.is(x.colours(most, m), 49);
        }
    }

    @Sentence(of = "Terms 2", says = "so that at each CROSSING the two lower ones' sum is twice the upper one, by m: told is to"
            + " which power m that is.")
    static void colours() {
        Run x = new Run();
        // of a closed braid of n crossings: one more where m goes into n
        for (int n = 2; n <= 12; n++) {
            int p = x.braid(n);
            for (int m : BY) {
                x.is(x.colours(p, m), n % m == 0 ? 2 : 1);
            }
        }
        int t = x.braid(3);
        int sum = x.join(t, 0, t, 0);
        x.is(x.colours(sum, 3), 3);
        x.is(x.colours(x.join(sum, 0, t, 0), 3), 4);
        x.is(x.colours(sum, 5), 1);
    }

    private static void numbers(Run x, int... powersAndNumbers) {
        for (int k = 0; k < powersAndNumbers.length; k += 2) {
            x.is(x.at(powersAndNumbers[k]), powersAndNumbers[k + 1]);
        }
        x.is(x.power(0), powersAndNumbers[0]);
        x.is(x.power(1), powersAndNumbers[powersAndNumbers.length - 2]);
    }

    @Sentence(of = "Terms 2", says = "BRACKET, a row of whole numbers by powers of A: the sum over all ways to smooth each"
            + " CROSSING (way 0 joins ENDS 0 with 1 and 2 with 3; way 1 joins 0 with 3 and 1 with 2) of A to (how many by way"
            + " 0, less those by way 1),")
    static void brackets() {
        Run x = new Run();
        // way 0: A, one circle; way 1: A^-1, two circles
        x.is(x.bracket(x.kinks(1)), 1);
        numbers(x, -3, -1);
        // way 0: A, two circles; way 1: A^-1, one circle
        x.is(x.bracket(x.rows(new int[] {1, 1, 0, 0})), 1);
        numbers(x, 3, -1);
        x.is(x.bracket(x.braid(2)), 2);
        numbers(x, -4, -1, 4, -1);
        x.is(x.bracket(x.kinks(14)), 1);
        numbers(x, -42, 1);
        x.is(x.bracket(x.kinks(13)), 1);
        numbers(x, -39, -1);
    }

    @Sentence(of = "Terms 2", says = "times (-A^2 - A^-2) to (how many circles come, LOOSE ones, too, less 1).")
    static void circlesLessOne() {
        Run x = new Run();
        x.is(x.bracket(x.circles(1)), 1);
        numbers(x, 0, 1);
        x.is(x.bracket(x.circles(2)), 2);
        numbers(x, -2, -1, 2, -1);
        x.is(x.bracket(x.circles(3)), 3);
        numbers(x, -4, 1, 0, 2, 4, 1);
        x.is(x.bracket(x.circles(9)), 9);
        numbers(x, -16, 1, 0, 70, 16, 1);
        int p = x.kinks(1);
        x.loose(p, 1);
        x.is(x.bracket(p), 2);
        numbers(x, -5, 1, -1, 1);
        // 14 kinks apart and 9 circles: 23 circles in all, the most that can be, all 22 times and A^-42
        int most = x.parts(14);
        x.loose(most, 9);
        x.is(x.bracket(most), 23);
        numbers(x, -86, 1, -42, 705432, 2, 1);
        x.mirror(most);
        x.is(x.bracket(most), 23);
        numbers(x, -2, 1, 42, 705432, 86, 1);
    }

    @Sentence(of = "Terms 2", says = "POLYNOMIAL: that times -1 to the WRITHE and A to (-3 WRITHE).")
    static void polynomials() {
        Run x = new Run();
        x.is(x.polynomial(x.circles(2)), 2);
        numbers(x, -2, -1, 2, -1);
        // writhes -1, 1, -2, -14, 14
        x.is(x.polynomial(x.kinks(1)), 1);
        numbers(x, 0, 1);
        x.is(x.polynomial(x.rows(new int[] {1, 1, 0, 0})), 1);
        numbers(x, 0, 1);
        x.is(x.polynomial(x.braid(2)), 2);
        numbers(x, 2, -1, 10, -1);
        int p = x.kinks(14);
        x.is(x.polynomial(p), 1);
        numbers(x, 0, 1);
        x.mirror(p);
        x.is(x.polynomial(p), 1);
        numbers(x, 0, 1);
        int most = x.parts(14);
        x.loose(most, 9);
        x.is(x.polynomial(most), 23);
        numbers(x, -44, 1, 0, 705432, 44, 1);
        x.mirror(most);
        x.is(x.polynomial(most), 23);
        numbers(x, -44, 1, 0, 705432, 44, 1);
    }

    @Sentence(of = "Terms 2", says = "DETERMINANT: the size of: the numbers of the BRACKET at its lowest power, 8, 16, .. above"
            + " that, less those at 4, 12, ...")
    static void determinants() {
        Run x = new Run();
        x.is(x.determinant(x.circles(1)), 1);
        x.is(x.determinant(x.circles(2)), 0);
        x.is(x.determinant(x.circles(9)), 0);
        x.is(x.determinant(x.kinks(1)), 1);
        for (int n = 2; n <= 14; n++) {
            x.is(x.determinant(x.braid(n)), n);
        }
    }

    @Sentence(of = "Terms 2", says = "WORK: each BRACKET that is made (for any call) costs 2 to the CROSSINGS;")
    static void work() {
        Run x = new Run();
        int c = x.circles(1);
        int k = x.kinks(1);
        int t = x.kinks(10);
        int most = x.kinks(14);
        int[] pictures = {c, k, t};
        int[] costs = {1, 2, 1024};
        int spent = 0;
        for (int n = 0; n < 3; n++) {
            x.bracket(pictures[n]);
            x.is(x.count(4), spent + costs[n]);
            x.polynomial(pictures[n]);
            x.is(x.count(4), spent + 2 * costs[n]);
            x.determinant(pictures[n]);
            x.is(x.count(4), spent + 3 * costs[n]);
            x.book(pictures[n], n + 1);
            x.is(x.count(4), spent + 4 * costs[n]);
            x.name(pictures[n]);
            x.is(x.count(4), spent + 5 * costs[n]);
            x.same(pictures[n], c, 0);
            x.is(x.count(4), spent + 6 * costs[n] + 1);
            spent += 6 * costs[n] + 1;
        }
        x.bracket(most);
        x.is(x.count(4), spent + 16384);
        x.same(c, most, 0);
        x.is(x.count(4), spent + 2 * 16384 + 1);
        spent += 2 * 16384 + 1;
        x.colours(most, 3);
        x.search(t, 5);
        x.like(t, t);
        x.gauss(most);
        x.same(c, x.circles(2), 5);
        x.is(x.count(4), spent);
    }

    @Sentence(of = "Terms 2", says = "1000000 in the house's life, and no more (what is refused costs nothing).")
    static void workIsSpent() {
        Run x = new Run();
        x.spendAllBut(3);
        int c = x.circles(1);
        int k = x.kinks(1);
        int two = x.kinks(2);
        x.no(x.bracket(two), SPENT);
        x.is(x.count(4), 999997);
        x.no(x.same(k, k, 0), SPENT);
        x.is(x.bracket(k), 1);
        x.is(x.count(4), 999999);
        x.no(x.bracket(k), SPENT);
        x.no(x.same(c, c, 0), SPENT);
        x.is(x.count(4), 999999);
        x.is(x.bracket(c), 1);
        x.is(x.count(4), 1000000);
        x.no(x.bracket(c), SPENT);
        x.no(x.polynomial(c), SPENT);
        x.no(x.determinant(c), SPENT);
        x.no(x.name(c), SPENT);
        x.no(x.book(c, 5), SPENT);
        x.no(x.same(c, c, 0), SPENT);
        x.is(x.count(4), 1000000);
        x.is(x.findings(9), 10);
    }
}
