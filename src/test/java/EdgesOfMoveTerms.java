/** Part 3 of the terms: what each KIND of MOVE does, and when it may not be done. */
final class EdgesOfMoveTerms {
    private static final int BAD = Run.BAD, FULL = Run.FULL, UNFIT = Run.UNFIT, NOT = Run.NOT, MANY = Run.MANY;
    private static final int TWIST = Run.TWIST, POKE = Run.POKE, SLIDE = Run.SLIDE, FLYPE = Run.FLYPE;
    private static final int SMOOTH = Run.SMOOTH, CHANGE = Run.CHANGE;

    private EdgesOfMoveTerms() {
    }

    @Sentence(of = "Terms 3", says = "MOVES, 60 at most, have a KIND and three numbers a, b, c.")
    static void movesUpTo60() {
        Run x = new Run();
        for (int m = 0; m < 60; m++) {
            x.is(x.move(m % 6, m, Integer.MIN_VALUE, Integer.MAX_VALUE), m);
        }
        x.no(x.move(0, 0, 0, 0), FULL);
        x.is(x.count(1), 60);
        int[] told = {5, 59, Integer.MIN_VALUE, Integer.MAX_VALUE};
        for (int what = 0; what < 4; what++) {
            x.is(x.tells(59, what), told[what]);
        }
        x.no(x.tells(60, 0), BAD);
        x.no(x.tells(-1, 0), BAD);
    }

    @Sentence(of = "Terms 3", says = "What each does, and when it may not be done (NOT; MANY: more than 40 CROSSINGS, 9 LOOSE"
            + " circles would come):")
    static void crossingsAndCirclesThatAreMany() {
        Run x = new Run();
        int[] sizes = {37, 38, 39, 40};
        for (int n : sizes) {
            int p = x.kinks(n);
            x.loose(p, 9);
            answer(x, x.may(p, TWIST, 0, 0, 0), n <= 39 ? 1 : MANY);
            answer(x, x.may(p, TWIST, -1, 0, 0), n <= 39 ? 1 : MANY);
            answer(x, x.may(p, POKE, 0, 2, 0), n <= 38 ? 1 : MANY);
            x.is(x.may(p, CHANGE, n - 1, 0, 0), 1);
            x.is(x.may(p, SMOOTH, n - 1, 0, 0), 1);
            x.no(x.may(p, SMOOTH, n - 1, 1, 0), MANY);
            x.no(x.may(p, TWIST, 4 * n, 0, 0), NOT);
        }
    }

    @Sentence(of = "Terms 3", says = "0 TWIST: the END a gets a loop, by sort b (0 .. 3):")
    static void twistSorts() {
        Run x = new Run();
        int p = x.kinks(1);
        for (int sort = -2; sort <= 5; sort++) {
            answer(x, x.may(p, TWIST, 0, sort, 0), sort >= 0 && sort <= 3 ? 1 : NOT);
        }
        for (int sort : Run.FAR) {
            x.no(x.may(p, TWIST, 0, sort, 0), NOT);
        }
        x.is(x.does(p, TWIST, 3, 3, 77), 1);
        x.is(x.told(p, 0), 2);
        x.is(x.open(p), 0);
    }

    private static void answer(Run x, int got, int want) {
        if (want < 0) {
            x.no(got, want);
        } else {
            x.is(got, want);
        }
    }

    @Sentence(of = "Terms 3", says = "x its ARC; m, z the least free ones; the OTHER END gets z; a new CROSSING: sort 0 x m m z,"
            + " 1 x z m m, 2 m m z x, 3 z m m x.")
    static void twistRows() {
        Run x = new Run();
        String[] rows = {"0 2 2 3", "0 3 2 2", "2 2 3 0", "3 2 2 0"};
        for (int sort = 0; sort < 4; sort++) {
            int p = x.kinks(1);
            x.is(x.does(p, TWIST, 0, sort, 0), 1);
            x.looks(p, 0, "0 1 1 3", rows[sort]);
            x.undo(p);
            x.is(x.does(p, TWIST, 3, sort, 0), 1);
            x.looks(p, 0, "3 1 1 0", rows[sort]);
        }
    }

    @Sentence(of = "Terms 3", says = "a = -1: a LOOSE circle: x, m the least free ones, z is x; there is a LOOSE circle less.")
    static void twistOfACircle() {
        Run x = new Run();
        String[] rows = {"0 1 1 0", "0 0 1 1", "1 1 0 0", "0 1 1 0"};
        for (int sort = 0; sort < 4; sort++) {
            int p = x.circles(1);
            x.is(x.does(p, TWIST, -1, sort, 0), 1);
            x.looks(p, 0, rows[sort]);
            x.no(x.does(p, TWIST, -1, sort, 0), NOT);
        }
        int nine = x.rows(new int[] {0, 2, 2, 0});
        x.loose(nine, 9);
        x.is(x.does(nine, TWIST, -1, 0, 0), 1);
        x.looks(nine, 8, "0 2 2 0", "1 3 3 1");
        x.no(x.may(nine, TWIST, -2, 0, 0), NOT);
    }

    @Sentence(of = "Terms 3", says = "NOT: no such END, LOOSE circle, sort.")
    static void twistNot() {
        Run x = new Run();
        int p = x.kinks(2);
        int c = x.circles(1);
        x.is(x.may(p, TWIST, 0, 0, 0), 1);
        x.is(x.may(p, TWIST, 7, 0, 0), 1);
        x.no(x.may(p, TWIST, 8, 0, 0), NOT);
        x.no(x.may(p, TWIST, -1, 0, 0), NOT);
        x.no(x.may(p, TWIST, -2, 0, 0), NOT);
        x.no(x.may(c, TWIST, 0, 0, 0), NOT);
        x.is(x.may(c, TWIST, -1, 0, 0), 1);
        x.no(x.may(c, TWIST, -1, -1, 0), NOT);
        x.is(x.may(c, TWIST, -1, 3, 0), 1);
        x.no(x.may(c, TWIST, -1, 4, 0), NOT);
        for (int a : Run.FAR) {
            x.no(x.may(p, TWIST, a, 0, 0), NOT);
        }
    }

    @Sentence(of = "Terms 3", says = "UNDONE: the END a = (c, i) and (c, i + 1) have one ARC (else NOT): CROSSING c is taken"
            + " out, the ARC of i + 2 JOINED with that of i + 3.")
    static void twistUndone() {
        // each sort on a kink, with the END of the new one at which it is undone, and what is left
        int[] at = {5, 6, 4, 5};
        String[] left = {"3 1 1 3", "0 1 1 0", "3 1 1 3", "0 1 1 0"};
        for (int sort = 0; sort < 4; sort++) {
            Run x = new Run();
            int p = x.kinks(1);
            x.does(p, TWIST, 0, sort, 0);
            for (int a = -1; a <= 8; a++) {
                answer(x, x.undoes(p, TWIST, a, 77, -77), a == at[sort] || a == 1 ? 1 : NOT);
                if (a == at[sort] || a == 1) {
                    x.is(x.told(p, 0), 1);
                    x.undo(p);
                }
            }
            x.is(x.undoes(p, TWIST, at[sort], 0, 0), 1);
            x.looks(p, 0, left[sort]);
        }
        Run x = new Run();
        int p = x.kinks(1);
        int[] kinks = {1, 3};
        for (int a : kinks) {
            x.is(x.undoes(p, TWIST, a, 0, 0), 1);
            x.looks(p, 1);
            x.undo(p);
        }
        x.loose(p, 8);
        x.is(x.undoes(p, TWIST, 1, 0, 0), 1);
        x.undo(p);
        x.loose(p, 9);
        x.no(x.undoes(p, TWIST, 1, 0, 0), MANY);
        for (int a : Run.FAR) {
            x.no(x.undoes(p, TWIST, a, 0, 0), NOT);
        }
    }

    @Sentence(of = "Terms 3", says = "1 POKE (a TWIST, too): ENDS a, b of one REGION with unlike ARCS;")
    static void pokeEnds() {
        Run x = new Run();
        int p = x.rows(Run.TREFOIL);
        int m = x.move(POKE, 0, 4, 0);
        x.is(x.as(m, TWIST), 1);
        x.is(x.as(m, POKE), 1);
        x.no(x.as(m, SLIDE), UNFIT);
        x.is(x.may(p, m), 1);
        x.is(x.may(p, POKE, 4, 0, 0), 1);
        x.is(x.may(p, POKE, 8, 0, 0), 1);
        for (int e = 0; e < 12; e++) {
            x.no(x.may(p, POKE, e, e, 0), NOT);
        }
        // OTHER ENDS of one another have one ARC
        x.no(x.may(p, POKE, 0, 9, 0), NOT);
        x.no(x.may(p, POKE, 0, 1, 0), NOT);
    }

    @Sentence(of = "Terms 3", says = "c 0: a's strand goes over, 1 under: x, y their ARCS; p, q, r, s the least free ones; a's"
            + " OTHER END gets q, b's OTHER END s; two new CROSSINGS: over: r p s x and y p r q; under: x r p s and q y p r.")
    static void pokeRows() {
        Run x = new Run();
        int p = x.rows(Run.TREFOIL);
        x.is(x.does(p, POKE, 0, 8, 0), 1);
        x.looks(p, 0, "2 0 3 5", "0 9 1 3", "4 7 5 1", "8 6 9 2", "4 6 8 7");
        x.is(x.open(p), 0);
        x.undo(p);
        x.is(x.does(p, POKE, 0, 8, 1), 1);
        x.looks(p, 0, "2 0 3 5", "0 9 1 3", "4 7 5 1", "2 8 6 9", "7 4 6 8");
        x.is(x.open(p), 0);
        x.undo(p);
        x.is(x.does(p, POKE, 8, 0, 0), 1);
        x.looks(p, 0, "2 0 3 5", "0 7 1 3", "4 9 5 1", "8 6 9 4", "2 6 8 7");
        x.undo(p);
        x.no(x.does(p, POKE, 0, 8, -1), NOT);
        x.no(x.does(p, POKE, 0, 8, 2), NOT);
    }

    @Sentence(of = "Terms 3", says = "NOT: no such ENDS, not so, another c.")
    static void pokeNot() {
        Run x = new Run();
        int p = x.rows(Run.TREFOIL);
        int[] none = {-2, -1, 12, 13, Integer.MIN_VALUE, Integer.MAX_VALUE};
        for (int e : none) {
            x.no(x.may(p, POKE, e, 0, 0), NOT);
            x.no(x.may(p, POKE, 0, e, 0), NOT);
            x.no(x.may(p, POKE, e, e, 0), NOT);
        }
        // END 11 by arc 1 to (1, 2), then END 5 by arc 4 to (2, 0), and back: the last END that there is
        x.is(x.may(p, POKE, 11, 5, 0), 1);
        x.is(x.may(p, POKE, 5, 11, 1), 1);
        x.no(x.may(p, POKE, 11, 4, 0), NOT);
        x.no(x.may(p, POKE, 11, 5, 2), NOT);
        x.no(x.may(p, POKE, 11, 5, -1), NOT);
        for (int c : Run.FAR) {
            x.no(x.may(p, POKE, 11, 5, c), NOT);
        }
        x.no(x.may(x.circles(2), POKE, -1, -1, 0), NOT);
    }

    @Sentence(of = "Terms 3", says = "UNDONE: the REGION of a = (c, i) has two ENDS, of two CROSSINGS, and the ARC of a goes"
            + " under, or over, at both of its ENDS:")
    static void pokeUndoneOrNot() {
        Run x = new Run();
        // one END; two ENDS of one CROSSING
        int k = x.kinks(1);
        for (int a = -1; a <= 4; a++) {
            x.no(x.undoes(k, POKE, a, 0, 0), NOT);
        }
        // three ENDS, though the ARC of END 0 goes under at both, and that of END 15 over
        int s = x.rows(Run.POKED);
        x.no(x.undoes(s, POKE, 0, 0, 0), NOT);
        x.no(x.undoes(s, POKE, 15, 0, 0), NOT);
        // two ENDS of two CROSSINGS, but linked
        int h = x.braid(2);
        for (int a = 0; a < 8; a++) {
            x.no(x.undoes(h, POKE, a, 0, 0), NOT);
        }
        // two ENDS of two CROSSINGS, one strand above the other: END 13 over at both, END 18 under at both
        for (int a = -1; a <= 20; a++) {
            answer(x, x.undoes(s, POKE, a, 0, 0), a == 13 || a == 18 ? 1 : NOT);
            if (a == 13 || a == 18) {
                x.undo(s);
            }
        }
    }

    @Sentence(of = "Terms 3", says = "(x, y) being its OTHER one: JOINED are the ARC of (c, i + 2) with that of (x, y + 2), then"
            + " that of (c, i + 3) with that of (x, y + 1), as they are then; both CROSSINGS are taken out. Else NOT.")
    static void pokeUndoneRows() {
        Run x = new Run();
        int p = x.rows(Run.TREFOIL);
        x.does(p, POKE, 0, 8, 0);
        x.is(x.undoes(p, POKE, 17, 99, 99), 1);
        x.looks(p, 0, "7 0 3 5", "0 4 1 3", "4 7 5 1");
        x.undo(p);
        x.is(x.undoes(p, POKE, 12, 0, 0), 1);
        x.looks(p, 0, "2 0 3 5", "0 9 1 3", "9 2 5 1");
        x.undo(p);
        // CROSSINGS 2 and 4 are taken out, 3 comes forward
        x.is(x.undoes(p, POKE, 8, 0, 0), 1);
        x.looks(p, 0, "2 0 3 5", "0 9 1 3", "5 1 9 2");
        // two circles, one on the other: both JOINED pairs are one ARC
        int u = x.rows(Run.UNLINK);
        x.loose(u, 7);
        x.is(x.undoes(u, POKE, 0, 0, 0), 1);
        x.looks(u, 9);
        x.undo(u);
        x.loose(u, 8);
        x.no(x.undoes(u, POKE, 0, 0, 0), MANY);
    }

    @Sentence(of = "Terms 3", says = "then that of (c, i + 3) with that of (x, y + 1), as they are then;")
    static void pokeUndoneAsTheyAreThen() {
        // a circle folded on itself: what is JOINED first makes the second pair one ARC; each way to turn both ROWS
        for (int i = 0; i < 4; i++) {
            for (int y = i % 2; y < 4; y += 2) {
                Run x = new Run();
                int[] near = {0, 1, 2, 2};
                int[] far = {0, 3, 3, 1};
                int[][] rows = new int[2][4];
                for (int k = 0; k < 4; k++) {
                    rows[0][(i + k) % 4] = near[k];
                    rows[1][(y + k) % 4] = far[k];
                }
                int p = x.rows(rows);
                x.is(x.open(p), 0);
                for (int a = 0; a < 8; a++) {
                    boolean lens = a == i || a == 4 + (y + 3) % 4;
                    answer(x, x.undoes(p, POKE, a, 0, 0), lens ? 1 : NOT);
                    if (lens) {
                        x.looks(p, 1);
                        x.undo(p);
                    }
                }
                x.loose(p, 9);
                x.no(x.undoes(p, POKE, i, 0, 0), MANY);
                x.loose(p, 8);
                x.is(x.undoes(p, POKE, i, 0, 0), 1);
            }
        }
    }

    @Sentence(of = "Terms 3", says = "2 SLIDE: the REGION of a has three ENDS, of three CROSSINGS, and one of its ARCS goes over"
            + " at both ENDS:")
    static void slideOrNot() {
        Run x = new Run();
        int s = x.rows(Run.POKED);
        for (int a = -1; a <= 20; a++) {
            boolean triangle = a == 0 || a == 4 || a == 15;
            answer(x, x.may(s, SLIDE, a, 77, 77), triangle ? 1 : NOT);
        }
        Run y = new Run();
        // three ENDS of three CROSSINGS, but no ARC that is over at both
        int t = y.braid(3);
        for (int a = 0; a < 12; a++) {
            y.no(y.may(t, SLIDE, a, 0, 0), NOT);
        }
        y.does(t, CHANGE, 0, 0, 0);
        y.is(y.may(t, SLIDE, 3, 0, 0), 1);
        // four ENDS, and an ARC over at both
        int four = y.braid(4);
        y.does(four, CHANGE, 0, 0, 0);
        for (int a = 0; a < 16; a++) {
            y.no(y.may(four, SLIDE, a, 0, 0), NOT);
        }
        // three ENDS, the ARC of END 7 over at both, but of two CROSSINGS
        int two = y.rows(new int[] {0, 1, 1, 3}, new int[] {0, 2, 2, 3});
        y.is(y.open(two), 0);
        for (int a = 0; a < 8; a++) {
            y.no(y.may(two, SLIDE, a, 0, 0), NOT);
        }
        for (int a : Run.FAR) {
            y.no(y.may(t, SLIDE, a, 0, 0), NOT);
        }
    }

    @Sentence(of = "Terms 3", says = "for each of its three ARCS e, with ENDS (x, i) and (y, k), u the ARC of (x, i + 2), v that"
            + " of (y, k + 2) (as all was): (x, i) gets v, (x, i + 2) e, (y, k) u, (y, k + 2) e.")
    static void slideRows() {
        int[] ends = {0, 4, 15};
        for (int a : ends) {
            Run x = new Run();
            int s = x.rows(Run.POKED);
            x.is(x.does(s, SLIDE, a, 0, 0), 1);
            x.looks(s, 0, "6 1 2 0", "5 8 0 9", "4 7 5 1", "3 9 2 3", "7 4 6 8");
            x.is(x.open(s), 0);
        }
    }

    @Sentence(of = "Terms 3", says = "Else NOT. UNDONE: the same at (c, i + 2), a being (c, i).")
    static void slideUndone() {
        Run x = new Run();
        int s = x.rows(Run.POKED);
        int[] ends = {0, 4, 15};
        for (int a : ends) {
            int across = a / 4 * 4 + (a + 2) % 4;
            x.no(x.undoes(s, SLIDE, a, 0, 0), NOT);
            x.is(x.undoes(s, SLIDE, across, 0, 0), 1);
            x.is(x.end(s, 0, 0), 6);
            // what was slid at a is slid back there
            x.is(x.undoes(s, SLIDE, a, 0, 0), 1);
            x.is(x.end(s, 0, 0), 2);
        }
        x.looks(s, 0, "2 0 3 5", "0 9 1 3", "4 7 5 1", "2 8 6 9", "7 4 6 8");
        int[] none = {-3, -2, -1, 20, 21, 22, Integer.MIN_VALUE, Integer.MAX_VALUE};
        for (int a : none) {
            x.no(x.undoes(s, SLIDE, a, 0, 0), NOT);
        }
    }

    @Sentence(of = "Terms 3", says = "3 FLYPE (a SLIDE, too): a = (c, i); b: bits of CROSSINGS that there are (0 .. 30), T, not"
            + " c (else NOT).")
    static void flypeBits() {
        Run x = new Run();
        int m = x.move(FLYPE, 1, 2, 0);
        x.is(x.as(m, SLIDE), 1);
        x.is(x.as(m, FLYPE), 1);
        x.no(x.as(m, TWIST), UNFIT);
        int t = x.braid(3);
        x.is(x.may(t, m), 1);
        x.no(x.may(t, FLYPE, 1, 2 | 1, 0), NOT);
        x.no(x.may(t, FLYPE, 1, 2 | 8, 0), NOT);
        x.no(x.may(t, FLYPE, 1, 2 | 1 << 30, 0), NOT);
        x.no(x.may(t, FLYPE, 1, 2 | 1 << 31, 0), NOT);
        x.no(x.may(t, FLYPE, 1, 0, 0), NOT);
        x.no(x.may(t, FLYPE, 12, 2, 0), NOT);
        x.no(x.may(t, FLYPE, -1, 2, 0), NOT);
        int thirty = x.braid(30);
        x.is(x.may(thirty, FLYPE, 4 * 28 + 1, 1 << 29, 0), 1);
        x.no(x.may(thirty, FLYPE, 4 * 28 + 1, 1 << 29 | 1 << 30, 0), NOT);
        int next = x.braid(31);
        x.is(x.may(next, FLYPE, 4 * 29 + 1, 1 << 30, 0), 1);
        x.no(x.may(next, FLYPE, 4 * 29 + 1, 1 << 30 | 1 << 31, 0), NOT);
        int more = x.braid(40);
        x.is(x.may(more, FLYPE, 4 * 29 + 1, 1 << 30, 0), 1);
        x.is(x.may(more, FLYPE, 4 * 31 + 3, 1 << 30, 0), 1);
        x.no(x.may(more, FLYPE, 4 * 30 + 1, 1 << 31, 0), NOT);
        x.no(x.may(more, FLYPE, 4 * 30 + 1, 1 << 30, 0), NOT);
        // all 31 bits, and one more
        int round = x.braid(33);
        x.is(x.may(round, FLYPE, 4 * 31 + 3, Integer.MAX_VALUE, 0), 1);
        x.no(x.may(round, FLYPE, 4 * 31 + 3, -1, 0), NOT);
        x.no(x.may(round, FLYPE, 4 * 30 + 3, Integer.MAX_VALUE, 0), NOT);
        // the CROSSING at PLACE 32 is not in T by bit 0
        x.no(x.may(more, FLYPE, 4 * 31 + 1, 1, 0), NOT);
    }

    @Sentence(of = "Terms 3", says = "The OTHER ENDS of (c, i), (c, i + 1) are in T: w, n.")
    static void flypeBothEndsInT() {
        Run x = new Run();
        int p = x.braid(4);
        // of CROSSING 0: ENDS 1 and 2 lead to CROSSING 1, ENDS 3 and 0 to CROSSING 3
        x.is(x.may(p, FLYPE, 1, 2, 0), 1);
        x.no(x.may(p, FLYPE, 1, 8, 0), NOT);
        x.is(x.may(p, FLYPE, 3, 8, 0), 1);
        x.no(x.may(p, FLYPE, 3, 2, 0), NOT);
        x.no(x.may(p, FLYPE, 0, 2, 0), NOT);
        x.no(x.may(p, FLYPE, 0, 8, 0), NOT);
        x.is(x.may(p, FLYPE, 0, 2 | 4 | 8, 0), 1);
        x.no(x.may(p, FLYPE, 2, 2, 0), NOT);
        x.no(x.may(p, FLYPE, 2, 8, 0), NOT);
        x.is(x.may(p, FLYPE, 2, 2 | 4 | 8, 0), 1);
    }

    @Sentence(of = "Terms 3", says = "Just four ENDS of T lead out of it.")
    static void flypeFourEnds() {
        Run x = new Run();
        // two lead out
        int k = x.kinks(2);
        x.no(x.may(k, FLYPE, 3, 2, 0), NOT);
        // four; eight
        int p = x.braid(4);
        x.is(x.may(p, FLYPE, 1, 2, 0), 1);
        x.is(x.may(p, FLYPE, 1, 2 | 4, 0), 1);
        x.no(x.may(p, FLYPE, 1, 2 | 8, 0), NOT);
        // a kink elsewhere makes them six
        int t = x.braid(3);
        x.does(t, TWIST, 9, 0, 0);
        x.is(x.may(t, FLYPE, 1, 2, 0), 1);
        x.no(x.may(t, FLYPE, 1, 2 | 8, 0), NOT);
        // a PART that lies in T wholly leads out nowhere, and is turned over
        int two = x.rows(new int[] {0, 2, 3, 1}, new int[] {2, 0, 1, 3}, new int[] {4, 5, 5, 4});
        x.is(x.does(two, FLYPE, 1, 2 | 4, 0), 1);
        x.looks(two, 0, "3 0 1 2", "2 1 0 3", "5 4 4 5");
        x.is(x.open(two), 0);
    }

    @Sentence(of = "Terms 3", says = "From n = (x, y): to (x, y + 3); if its OTHER END is in T, on from there likewise; else"
            + " this is r. From w likewise with y + 1: s.")
    static void flypeGoesAlongTheRim() {
        Run x = new Run();
        int p = x.braid(4);
        x.is(x.does(p, FLYPE, 1, 2 | 4, 0), 1);
        x.looks(p, 0, "3 6 7 2", "4 1 0 5", "2 4 5 3", "6 0 1 7");
        x.is(x.open(p), 0);
        x.undo(p);
        x.is(x.does(p, FLYPE, 1, 2, 0), 1);
        x.looks(p, 0, "3 4 5 2", "2 1 0 3", "4 6 7 5", "6 0 1 7");
        x.is(x.open(p), 0);
        // r is END 0; s is END 0
        int t = x.braid(3);
        x.is(x.does(t, FLYPE, 7, 1, 0), 1);
        x.looks(t, 0, "5 2 3 4", "0 3 2 1", "4 0 1 5");
        x.is(x.open(t), 0);
        x.undo(t);
        x.does(t, CHANGE, 0, 0, 0);
        x.is(x.does(t, FLYPE, 9, 1, 0), 1);
        x.looks(t, 0, "1 0 5 4", "2 4 5 3", "1 2 3 0");
        x.is(x.open(t), 0);
    }

    @Sentence(of = "Terms 3", says = "r and s are not w, n, and not one (else NOT, also when that does not come to an end).")
    static void flypeComesOutElsewhere() {
        Run x = new Run();
        // CROSSING 0 with a kink lies inside T, a ring: from n the next END that leads out is w, from w it is n
        int ring = x.rows(new int[] {0, 1, 2, 2}, new int[] {0, 1, 3, 4}, new int[] {4, 3, 5, 5});
        x.is(x.open(ring), 0);
        x.no(x.may(ring, FLYPE, 0, 2, 0), NOT);
        // the same CROSSINGS, CROSSING 0 outside of T
        int beside = x.rows(new int[] {1, 0, 2, 2}, new int[] {0, 1, 3, 4}, new int[] {4, 3, 5, 5});
        x.is(x.open(beside), 0);
        x.is(x.may(beside, FLYPE, 0, 2, 0), 1);
        x.no(x.undoes(ring, x.move(FLYPE, 2, 2, 0)), NOT);
        x.is(x.undoes(beside, x.move(FLYPE, 2, 2, 0)), 1);
        x.is(x.open(beside), 0);
    }

    @Sentence(of = "Terms 3", says = "Then: the ARCS of (c, i), (c, i + 1), (c, i + 2), (c, i + 3) being f, g, h, j, those of r,"
            + " s being k, l: (c, i) gets l, (c, i + 1) k, (c, i + 2) f, (c, i + 3) g; w gets h, n j, s f, r g; and each ROW of"
            + " T is turned over: of e0 e1 e2 e3 it becomes e1 e0 e3 e2.")
    static void flypeRows() {
        Run x = new Run();
        int p = x.rows(Run.FIGURE_EIGHT);
        x.is(x.does(p, FLYPE, 2, 4 | 8, 0), 1);
        x.looks(p, 0, "5 7 3 1", "0 4 1 3", "7 6 2 0", "4 2 6 5");
        x.is(x.open(p), 0);
        x.undo(p);
        x.is(x.does(p, FLYPE, 0, 2, 0), 1);
        x.looks(p, 0, "1 3 4 0", "5 7 0 4", "6 1 7 2", "2 5 3 6");
        x.is(x.open(p), 0);
        int six = x.braid(6);
        x.is(x.does(six, FLYPE, 13, 16, 0), 1);
        x.looks(six, 0, "0 2 3 1", "2 4 5 3", "4 6 7 5", "9 10 11 8", "8 7 6 9", "10 0 1 11");
        x.is(x.open(six), 0);
    }

    @Sentence(of = "Terms 3", says = "UNDONE: the same at (c, i + 2).")
    static void flypeUndone() {
        Run x = new Run();
        int p = x.rows(Run.FIGURE_EIGHT);
        x.does(p, FLYPE, 2, 4 | 8, 0);
        x.is(x.undoes(p, FLYPE, 2, 4 | 8, 0), 1);
        x.looks(p, 0, "4 0 5 7", "0 4 1 3", "6 1 7 2", "2 5 3 6");
        x.is(x.undoes(p, FLYPE, 0, 4 | 8, 0), 1);
        x.looks(p, 0, "5 7 3 1", "0 4 1 3", "7 6 2 0", "4 2 6 5");
        int[] none = {-2, -1, 16, 18, Integer.MIN_VALUE, Integer.MAX_VALUE};
        for (int a : none) {
            x.no(x.undoes(p, FLYPE, a, 4 | 8, 0), NOT);
        }
    }

    @Sentence(of = "Terms 3", says = "4 SMOOTH: CROSSING a by way b: way 0 JOINS the ARCS of ENDS 0 with 1, then 2 with 3, way 1"
            + " those of 0 with 3, then 1 with 2 (as they are then); it is taken out.")
    static void smoothRows() {
        Run x = new Run();
        int t = x.rows(Run.TREFOIL);
        x.is(x.does(t, SMOOTH, 0, 0, 77), 1);
        x.looks(t, 0, "2 4 1 3", "4 2 3 1");
        x.undo(t);
        x.is(x.does(t, SMOOTH, 0, 1, 77), 1);
        x.looks(t, 0, "0 4 1 0", "4 2 2 1");
        x.undo(t);
        x.is(x.does(t, SMOOTH, 2, 0, 0), 1);
        x.looks(t, 0, "4 0 3 5", "0 4 5 3");
        // as they are then: of 0 1 1 0 way 0 makes one circle, way 1 two
        int k = x.kinks(1);
        x.is(x.does(k, SMOOTH, 0, 0, 0), 1);
        x.looks(k, 1);
        x.undo(k);
        x.is(x.does(k, SMOOTH, 0, 1, 0), 1);
        x.looks(k, 2);
        x.undo(k);
        x.mirror(k);
        x.is(x.does(k, SMOOTH, 0, 0, 0), 1);
        x.looks(k, 2);
        x.undo(k);
        x.is(x.does(k, SMOOTH, 0, 1, 0), 1);
        x.looks(k, 1);
    }

    @Sentence(of = "Terms 3", says = "NOT: no such CROSSING, way.")
    static void smoothNot() {
        Run x = new Run();
        int p = x.kinks(3);
        for (int c = -2; c <= 4; c++) {
            answer(x, x.may(p, SMOOTH, c, 0, 0), c >= 0 && c < 3 ? 1 : NOT);
        }
        for (int way = -2; way <= 3; way++) {
            answer(x, x.may(p, SMOOTH, 0, way, 0), way == 0 || way == 1 ? 1 : NOT);
        }
        for (int far : Run.FAR) {
            x.no(x.may(p, SMOOTH, far, 0, 0), NOT);
            x.no(x.may(p, SMOOTH, 0, far, 0), NOT);
        }
        x.no(x.may(x.circles(1), SMOOTH, 0, 0, 0), NOT);
    }

    @Sentence(of = "Terms 3", says = "5 CHANGE (a SMOOTH, too): the ROW of CROSSING a becomes e1 e2 e3 e0.")
    static void changeRows() {
        Run x = new Run();
        int m = x.move(CHANGE, 1, 77, 77);
        x.is(x.as(m, SMOOTH), 1);
        x.is(x.as(m, CHANGE), 1);
        x.no(x.as(m, FLYPE), UNFIT);
        int t = x.rows(Run.TREFOIL);
        String[] turned = {"4 1 3 0", "1 3 0 4", "3 0 4 1", "0 4 1 3"};
        for (String row : turned) {
            x.is(x.does(t, m), 1);
            x.looks(t, 0, "2 0 3 5", row, "4 2 5 1");
            x.is(x.open(t), 0);
        }
    }

    @Sentence(of = "Terms 3", says = "NOT: none such. UNDONE: e3 e0 e1 e2.")
    static void changeNotAndUndone() {
        Run x = new Run();
        int t = x.rows(Run.TREFOIL);
        for (int c = -2; c <= 4; c++) {
            answer(x, x.may(t, CHANGE, c, 0, 0), c >= 0 && c < 3 ? 1 : NOT);
        }
        x.no(x.undoes(t, CHANGE, -1, 0, 0), NOT);
        x.no(x.undoes(t, CHANGE, 3, 0, 0), NOT);
        for (int far : Run.FAR) {
            x.no(x.may(t, CHANGE, far, 0, 0), NOT);
            x.no(x.undoes(t, CHANGE, far, 0, 0), NOT);
        }
        x.is(x.undoes(t, CHANGE, 0, 0, 0), 1);
        x.looks(t, 0, "5 2 0 3", "0 4 1 3", "4 2 5 1");
        x.is(x.does(t, CHANGE, 0, 0, 0), 1);
        x.looks(t, 0, "2 0 3 5", "0 4 1 3", "4 2 5 1");
        x.is(x.undoes(t, CHANGE, 2, 0, 0), 1);
        x.looks(t, 0, "2 0 3 5", "0 4 1 3", "1 4 2 5");
    }
}
