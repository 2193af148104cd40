/** Part 4 of the terms: what is LIKE what, and how far a SEARCH goes. */
final class EdgesOfSearchTerms {
    private static final int NONE = Run.NONE, NOT = Run.NOT;
    /** Two circles with six kinks each: 12 CROSSINGS, and far more STATES than are kept. */
    private static final int[][] MANY_STATES = {{0, 2, 3, 0, 1, 2}, {0, 0, 3, 2, 1, 1}};
    /** Two circles with four kinks each, or five and three, of these sorts: they have 99, 100, 101 STATES. */
    private static final int[][][] SORTS = {{{0, 2, 3, 0}, {0, 0, 3, 2}}, {{2, 0, 2, 0, 3}, {0, 0, 3}},
        {{3, 1, 3, 2}, {0, 0, 1, 2}}};

    private EdgesOfSearchTerms() {
    }

    @Sentence(of = "Terms 4", says = "PICTURES are LIKE if there are as many LOOSE circles,")
    static void likeWithAsManyCircles() {
        Run x = new Run();
        int p = x.kinks(1);
        int q = x.kinks(1);
        for (int n = 0; n <= 9; n++) {
            x.loose(p, n);
            x.loose(q, n);
            x.is(x.like(p, q), 1);
            x.loose(q, n == 9 ? 8 : n + 1);
            x.is(x.like(p, q), 0);
            x.is(x.like(q, p), 0);
        }
        x.is(x.like(x.picture(), x.picture()), 1);
        x.is(x.like(x.picture(), x.circles(1)), 0);
        // a circle with a kink is one circle, but not a LOOSE one
        x.loose(p, 0);
        x.is(x.like(x.circles(1), p), 0);
    }

    private static int turnedBy(Run x, int by, int[]... rows) {
        int[][] turned = new int[rows.length][4];
        for (int c = 0; c < rows.length; c++) {
            for (int i = 0; i < 4; i++) {
                turned[c][i] = rows[c][(i + (c == 0 ? by : 0)) % 4];
            }
        }
        return x.rows(turned);
    }

    @Sentence(of = "Terms 4", says = "and one comes of the other by renumbering its CROSSINGS, turning ROWS by 0 or 2,"
            + " renumbering ARCS.")
    static void likeByTurningBy0Or2() {
        Run x = new Run();
        int[][] kink = {{0, 1, 1, 0}};
        int k = x.rows(kink);
        int t = x.rows(Run.TREFOIL);
        for (int by = 0; by < 4; by++) {
            x.is(x.like(k, turnedBy(x, by, kink)), by % 2 == 0 ? 1 : 0);
            x.is(x.like(t, turnedBy(x, by, Run.TREFOIL)), by % 2 == 0 ? 1 : 0);
        }
        // another order, arcs up to 99
        int r = x.rows(new int[] {95, 97, 94, 98}, new int[] {97, 99, 96, 94}, new int[] {99, 95, 98, 96});
        x.is(x.like(t, r), 1);
        x.is(x.like(r, t), 1);
        x.mirror(r);
        x.is(x.like(t, r), 0);
        // one CROSSING more or less
        x.is(x.like(k, x.kinks(2)), 0);
        x.is(x.like(x.kinks(2), x.parts(2)), 0);
        // kinks on one side, or on both
        int side = x.rows(new int[] {0, 1, 1, 3}, new int[] {0, 2, 2, 3});
        x.is(x.like(x.kinks(2), side), 0);
        x.is(x.like(x.parts(3), x.parts(3)), 1);
    }

    @Sentence(of = "Terms 4", says = "SEARCH: STATES are pictures; the first is the one it is of.")
    static void theFirstState() {
        Run x = new Run();
        int p = x.rows(new int[] {7, 9, 9, 8}, new int[] {8, 3, 3, 7});
        x.loose(p, 4);
        x.is(x.search(p, 0), 0);
        x.is(x.searched(1), 1);
        x.is(x.searched(2), 2);
        int f = x.fewer();
        x.looks(f, 4, "7 9 9 8", "8 3 3 7");
        x.is(x.way(0), NONE);
        int e = x.picture();
        x.is(x.search(e, 5), 0);
        x.is(x.searched(1), 1);
        x.is(x.searched(2), 0);
    }

    @Sentence(of = "Terms 4", says = "From each STATE, in order, for each END e from 0 on and for k = 0 (TWIST undone at e), 1"
            + " (POKE undone at e), 2 (SLIDE at e), each that may be done is a STEP:")
    static void steps() {
        Run x = new Run();
        int k = x.kinks(1);
        x.is(x.search(k, 5000), 2);
        x.loose(k, 8);
        x.is(x.search(k, 5000), 2);
        // ten circles would come: it may not be done
        x.loose(k, 9);
        x.is(x.search(k, 5000), 0);
        int u = x.rows(Run.UNLINK);
        x.is(x.search(u, 5000), 8);
        x.loose(u, 7);
        x.is(x.search(u, 5000), 8);
        x.loose(u, 8);
        x.is(x.search(u, 5000), 0);
        // the first STEP of all is a SLIDE at END 0, which none of the kinds ahead of it can be
        int s = x.rows(Run.POKED);
        int slid = x.twin(s);
        x.does(slid, Run.SLIDE, 0, 0, 0);
        x.is(x.same(s, slid, 0), -1);
        x.is(x.same(s, slid, 1), 1);
        x.is(x.way(0), 2);
        // a trefoil has none
        x.is(x.search(x.braid(3), 5000), 0);
        // in order: both kinks of the first, then that of the second STATE twice
        int two = x.kinks(2);
        int[] states = {1, 2, 2, 3, 3};
        x.search(two, 0);
        for (int n = 0; n < 5; n++) {
            x.is(x.searched(1), states[n]);
            x.is(x.goOn(1), n < 4 ? 1 : 0);
        }
    }

    @Sentence(of = "Terms 4", says = "what comes of it, if it is LIKE no STATE, becomes one more")
    static void statesThatAreNew() {
        Run x = new Run();
        x.is(x.search(x.kinks(1), 5000), 2);
        x.is(x.searched(1), 2);
        x.is(x.search(x.kinks(12), 5000), 79);
        x.is(x.searched(1), 13);
        x.is(x.search(x.rows(Run.UNLINK), 5000), 8);
        x.is(x.searched(1), 2);
        // kinks of two SIGNS on two circles: one or the other goes first
        int p = x.rows(new int[] {0, 1, 1, 0}, new int[] {2, 2, 3, 3});
        x.is(x.search(p, 5000), 8);
        x.is(x.searched(1), 4);
        // what is slid and slid back is LIKE the first STATE
        Oracle oracle = searchedBy(100, Run.POKED);
        x.is(x.search(x.rows(Run.POKED), 5000), oracle.call("searched", 3));
        x.is(x.searched(1), oracle.call("searched", 1));
    }

    private static int[][] rowsOf(int[][] circles) {
        int[][] rows = new int[circles[0].length + circles[1].length][];
        int c = 0;
        for (int[] sorts : circles) {
            int first = 2 * c;
            for (int k = 0; k < sorts.length; k++) {
                int in = 2 * c;
                int m = in + 1;
                int out = k == sorts.length - 1 ? first : in + 2;
                int[][] bySort = {{in, m, m, out}, {in, out, m, m}, {m, m, out, in}, {out, m, m, in}};
                rows[c] = bySort[sorts[k]];
                c++;
            }
        }
        return rows;
    }

    private static Oracle searchedBy(int mostStates, int[][] rows) {
        Oracle oracle = new Oracle(mostStates);
        oracle.call("picture");
        for (int[] row : rows) {
            oracle.call("crossing", 0, row[0], row[1], row[2], row[3]);
        }
        oracle.call("search", 0, 5000);
        return oracle;
    }

    @Sentence(of = "Terms 4", says = "(100 at most; more are not kept)")
    static void statesUpTo100() {
        manyStates();
        for (int n = 0; n < 3; n++) {
            int[][] rows = rowsOf(SORTS[n]);
            Oracle all = searchedBy(1000, rows);
            Oracle kept = searchedBy(100, rows);
            Run.due.is("states without a limit", all.call("searched", 1), 99 + n);
            Run x = new Run();
            int p = x.rows(rows);
            x.is(x.search(p, 5000), kept.call("searched", 3));
            x.is(x.searched(0), 1);
            x.is(x.searched(1), n == 0 ? 99 : 100);
            // the last STATE that is kept is found, the one behind it is not
            int last = x.rows(all.rowsOfState(n == 0 ? 98 : 99));
            x.loose(last, all.looseOfState(n == 0 ? 98 : 99));
            x.is(x.same(p, last, 5000), 1);
            if (n == 2) {
                int behind = x.rows(all.rowsOfState(100));
                x.loose(behind, all.looseOfState(100));
                x.is(x.same(p, behind, 5000), -1);
                x.is(x.searched(0), 1);
                x.is(x.searched(1), 100);
            }
        }
    }

    /** The longest way to the end: 100 STATES of nearly 12 CROSSINGS. */
    private static void manyStates() {
        int[][] rows = rowsOf(MANY_STATES);
        Oracle kept = searchedBy(100, rows);
        Run.due.holds("there are more states", searchedBy(101, rows).call("searched", 1) == 101);
        Run x = new Run();
        int p = x.rows(rows);
        x.is(x.search(p, 5000), kept.call("searched", 3));
        x.is(x.searched(0), 1);
        x.is(x.searched(1), 100);
        x.is(x.searched(2), kept.call("searched", 2));
    }

    @Sentence(of = "Terms 4", says = ", led to by 3 e + k.")
    static void ledToBy() {
        Run x = new Run();
        int c = x.circles(1);
        // END 1 is the first kink; of a kink at ENDS 0 and 1 it is END 0
        int k = x.kinks(1);
        x.is(x.same(k, c, 9), 1);
        x.is(x.way(0), 3);
        x.is(x.way(1), NONE);
        x.mirror(k);
        x.is(x.same(k, c, 9), 1);
        x.is(x.way(0), 0);
        int u = x.rows(Run.UNLINK);
        x.is(x.same(u, x.circles(2), 9), 1);
        x.is(x.way(0), 1);
        // twelve kinks, taken out one by one; a trefoil's kink at the last CROSSING
        int twelve = x.kinks(12);
        x.is(x.same(twelve, c, 5000), 1);
        for (int n = 0; n < 12; n++) {
            x.is(x.way(n), 3);
        }
        x.is(x.way(12), NONE);
        int t = x.braid(3);
        int twisted = x.twin(t);
        x.does(twisted, Run.TWIST, 0, 1, 0);
        x.is(x.same(twisted, t, 9), 1);
        x.is(x.way(0), 3 * 14);
    }

    @Sentence(of = "Terms 4", says = "It is ENDED when a call that had STEPS left came to the end of all STATES (behind its last"
            + " STEP it stops at once).")
    static void ended() {
        Run x = new Run();
        int k = x.kinks(1);
        int[] gone = {0, 1, 2, 2, 2};
        for (int n = 0; n < 5; n++) {
            x.is(x.search(k, n), gone[n]);
            x.is(x.searched(0), n > 2 ? 1 : 0);
        }
        x.search(k, 2);
        x.is(x.goOn(0), 0);
        x.is(x.searched(0), 0);
        x.is(x.goOn(1), 0);
        x.is(x.searched(0), 1);
        x.is(x.goOn(0), 0);
        x.is(x.searched(0), 1);
        // a picture without STEPS
        int c = x.circles(1);
        x.is(x.search(c, 0), 0);
        x.is(x.searched(0), 0);
        x.is(x.search(c, 1), 0);
        x.is(x.searched(0), 1);
        x.is(x.search(x.picture(), 1), 0);
        x.is(x.searched(0), 1);
        // the one that same() leaves is not ended where it stopped
        x.is(x.same(k, c, 5000), 1);
        x.is(x.searched(0), 0);
        x.is(x.goOn(5000), 1);
        x.is(x.searched(0), 1);
    }

    @Sentence(of = "Terms 4", says = "STATES stay as they are, whatever becomes of the PICTURE.")
    static void statesStay() {
        Run x = new Run();
        int p = x.kinks(3);
        x.is(x.search(p, 1), 1);
        x.row(p, 0, -1);
        x.row(p, 1, 0);
        x.put(p, 2, 0, -1);
        x.loose(p, 9);
        x.is(x.goOn(5000), 6);
        x.is(x.searched(0), 1);
        x.is(x.searched(1), 4);
        int f = x.fewer();
        x.looks(f, 1);
        int q = x.kinks(1);
        x.search(q, 0);
        x.mirror(q);
        x.does(q, Run.TWIST, 0, 0, 0);
        f = x.fewer();
        x.looks(f, 0, "0 1 1 0");
        // nor does what becomes of the PICTURE that came of fewer()
        x.loose(f, 3);
        int g = x.fewer();
        x.looks(g, 0, "0 1 1 0");
        x.no(x.undo(g), NOT);
    }
}
