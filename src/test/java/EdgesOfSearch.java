/** Promises 38 to 46: likeness and search. */
final class EdgesOfSearch {
    private static final int NONE = Run.NONE, BAD = Run.BAD, FULL = Run.FULL, OPEN = Run.OPEN, NOT = Run.NOT;
    private static final int GREAT = Run.GREAT, SPENT = Run.SPENT;

    private EdgesOfSearch() {
    }

    @Sentence(of = "Promise 38", says = "Whether two PICTURES are LIKE: 1, 0.")
    static void likeOrNot() {
        Run x = new Run();
        int p = x.kinks(40);
        int q = x.kinks(40);
        x.is(x.like(p, q), 1);
        x.is(x.like(p, p), 1);
        x.mirror(q);
        x.is(x.like(p, q), 0);
        int k = x.kinks(1);
        int c = x.circles(1);
        x.is(x.like(k, c), 0);
        x.is(x.like(c, c), 1);
        x.is(x.like(x.picture(), x.picture()), 1);
        int most = x.parts(40);
        x.is(x.like(most, x.parts(40)), 1);
        x.is(x.like(most, p), 0);
    }

    @Sentence(of = "Promise 38", says = "BAD; OPEN.")
    static void likeRefused() {
        Run x = new Run();
        int p = x.kinks(1);
        int open = x.openOne();
        x.no(x.like(-1, p), BAD);
        x.no(x.like(p, -1), BAD);
        x.no(x.like(2, open), BAD);
        x.no(x.like(open, 2), BAD);
        x.no(x.like(open, p), OPEN);
        x.no(x.like(p, open), OPEN);
        x.no(x.like(open, open), OPEN);
        x.is(x.like(p, p), 1);
        for (int far : Run.FAR) {
            x.no(x.like(far, p), BAD);
            x.no(x.like(p, far), BAD);
        }
    }

    @Sentence(of = "Promise 39", says = "A SEARCH of a PICTURE begins (another one is forgotten),")
    static void anotherSearchIsForgotten() {
        Run x = new Run();
        int p = x.kinks(3);
        int t = x.braid(3);
        x.search(p, 5000);
        x.is(x.searched(0), 1);
        x.is(x.searched(1), 4);
        x.is(x.searched(3), 7);
        x.is(x.search(t, 0), 0);
        x.is(x.searched(0), 0);
        x.is(x.searched(1), 1);
        x.is(x.searched(2), 3);
        x.is(x.searched(3), 0);
        // one that is refused leaves the other
        x.no(x.search(x.kinks(13), 5), GREAT);
        x.is(x.searched(2), 3);
        x.is(x.search(p, 3), 3);
        x.is(x.searched(1), 2);
        x.is(x.searched(3), 3);
    }

    @Sentence(of = "Promise 39", says = "up to n STEPS (0 .. 5000): how many were gone.")
    static void searchSteps() {
        Run x = new Run();
        int p = x.kinks(12);
        x.no(x.search(p, -1), BAD);
        x.is(x.search(p, 0), 0);
        x.is(x.search(p, 1), 1);
        x.is(x.search(p, 78), 78);
        x.is(x.search(p, 79), 79);
        x.is(x.searched(0), 0);
        x.is(x.search(p, 80), 79);
        x.is(x.searched(0), 1);
        x.is(x.search(p, 4999), 79);
        x.is(x.search(p, 5000), 79);
        x.no(x.search(p, 5001), BAD);
        for (int far : Run.FAR) {
            x.no(x.search(p, far), BAD);
        }
    }

    @Sentence(of = "Promise 39", says = "BAD; OPEN; GREAT: above 12.")
    static void searchRefused() {
        Run x = new Run();
        int twelve = x.kinks(12);
        int thirteen = x.kinks(13);
        int open = x.twin(thirteen);
        x.put(open, 0, 0, -1);
        x.no(x.search(-1, 5), BAD);
        x.no(x.search(3, 5), BAD);
        x.no(x.search(open, 5001), BAD);
        x.no(x.search(open, -1), BAD);
        x.no(x.search(open, 5), OPEN);
        x.no(x.search(thirteen, 5), GREAT);
        x.no(x.search(x.kinks(40), 5), GREAT);
        x.no(x.searched(0), NOT);
        x.is(x.search(twelve, 5), 5);
    }

    @Sentence(of = "Promise 40", says = "It goes on, up to n STEPS (0 .. 5000) more: how many were gone.")
    static void goesOn() {
        Run x = new Run();
        int p = x.kinks(12);
        x.search(p, 0);
        x.is(x.goOn(0), 0);
        x.is(x.goOn(1), 1);
        x.is(x.searched(3), 1);
        x.is(x.goOn(77), 77);
        x.is(x.goOn(1), 1);
        x.is(x.searched(0), 0);
        x.is(x.goOn(1), 0);
        x.is(x.searched(0), 1);
        x.is(x.searched(1), 13);
        x.is(x.goOn(5000), 0);
        x.search(p, 70);
        x.is(x.goOn(5000), 9);
        x.is(x.searched(0), 1);
        x.is(x.searched(3), 79);
    }

    @Sentence(of = "Promise 40", says = "BAD; NOT: no SEARCH.")
    static void goOnRefused() {
        Run x = new Run();
        int p = x.kinks(2);
        x.no(x.goOn(-1), BAD);
        x.no(x.goOn(0), NOT);
        x.no(x.goOn(5000), NOT);
        x.no(x.goOn(5001), BAD);
        // none begins when a number parts
        x.is(x.same(p, x.braid(3), 5), 0);
        x.no(x.goOn(0), NOT);
        x.search(p, 0);
        x.no(x.goOn(-1), BAD);
        x.is(x.goOn(0), 0);
        x.is(x.goOn(5000), 4);
        x.no(x.goOn(5001), BAD);
        for (int far : Run.FAR) {
            x.no(x.goOn(far), BAD);
        }
    }

    @Sentence(of = "Promise 41", says = "Of the SEARCH: what = 0 whether it is ENDED (1, 0), 1 STATES, 2 the fewest CROSSINGS that"
            + " a STATE has, 3 STEPS in all.")
    static void searchedOfEach() {
        Run x = new Run();
        int p = x.kinks(2);
        int[][] due = {{0, 1, 2, 0}, {0, 2, 1, 1}, {0, 2, 1, 2}, {0, 3, 0, 3}, {0, 3, 0, 4}, {1, 3, 0, 4}, {1, 3, 0, 4}};
        x.search(p, 0);
        for (int[] row : due) {
            for (int what = 0; what < 4; what++) {
                x.is(x.searched(what), row[what]);
            }
            x.goOn(1);
        }
        x.search(x.picture(), 0);
        x.is(x.searched(2), 0);
        x.search(x.kinks(12), 0);
        x.is(x.searched(2), 12);
    }

    @Sentence(of = "Promise 41", says = "BAD; NOT: no SEARCH.")
    static void searchedRefused() {
        Run x = new Run();
        x.no(x.searched(-1), BAD);
        for (int what = 0; what < 4; what++) {
            x.no(x.searched(what), NOT);
        }
        x.no(x.searched(4), BAD);
        x.search(x.picture(), 0);
        x.no(x.searched(-1), BAD);
        x.is(x.searched(0), 0);
        x.is(x.searched(3), 0);
        x.no(x.searched(4), BAD);
        for (int far : Run.FAR) {
            x.no(x.searched(far), BAD);
        }
    }

    @Sentence(of = "Promise 42", says = "The first STATE with the fewest CROSSINGS, as a new PICTURE;")
    static void fewerIsTheFirst() {
        Run x = new Run();
        // kinks of SIGN -1 and 1: the first is taken out first, so the STATE with the second comes first of two
        int p = x.rows(new int[] {0, 1, 1, 0}, new int[] {2, 2, 3, 3});
        x.is(x.search(p, 3), 3);
        x.is(x.searched(1), 3);
        x.is(x.searched(2), 1);
        int f = x.fewer();
        x.is(f, 1);
        x.looks(f, 1, "2 2 3 3");
        x.no(x.undo(f), NOT);
        // the first of all, when none has fewer
        int t = x.braid(3);
        x.search(t, 5000);
        f = x.fewer();
        x.looks(f, 0, "0 2 3 1", "2 4 5 3", "4 0 1 5");
        x.is(x.fewer(), f + 1);
        x.search(x.circles(9), 1);
        x.is(x.told(x.fewer(), 1), 9);
    }

    @Sentence(of = "Promise 42", says = "ways from the first STATE to it are told by way().")
    static void fewerTellsWays() {
        Run x = new Run();
        int p = x.kinks(12);
        x.search(p, 0);
        x.fewer();
        x.is(x.way(0), NONE);
        x.search(p, 1);
        x.is(x.way(0), NONE);
        x.fewer();
        x.is(x.way(0), 3);
        x.is(x.way(1), NONE);
        x.search(p, 5000);
        x.is(x.way(1), NONE);
        x.fewer();
        x.is(x.way(0), 3);
        x.is(x.way(11), 3);
        x.is(x.way(12), NONE);
        x.is(x.like(x.check(p), x.circles(1)), 1);
        // both CROSSINGS of two parts: END 1 of the first, then END 0 of what is left
        x.search(x.rows(new int[] {0, 1, 1, 0}, new int[] {2, 2, 3, 3}), 5000);
        x.fewer();
        x.is(x.way(0), 3);
        x.is(x.way(1), 0);
        x.is(x.way(2), NONE);
    }

    @Sentence(of = "Promise 42", says = "FULL; NOT: no SEARCH.")
    static void fewerRefused() {
        Run x = new Run();
        x.no(x.fewer(), NOT);
        x.fillPictures(24);
        x.no(x.fewer(), FULL);
        Run y = new Run();
        int k = y.kinks(1);
        y.search(k, 9);
        y.fillPictures(23);
        y.is(y.fewer(), 23);
        y.is(y.way(0), 3);
        y.search(k, 0);
        y.no(y.fewer(), FULL);
        // its ways are those of the latest that was not refused
        y.is(y.way(0), 3);
    }

    private static void parted(Run x, int p, int q, int by) {
        x.is(x.same(p, q, 0), 0);
        x.is(x.parted(), by);
    }

    @Sentence(of = "Promise 43", says = "Whether two PICTURES are of one knot: 0 if a number parts them, told by parted(): the"
            + " first of 1 PIECES,")
    static void partedByPieces() {
        Run x = new Run();
        int none = x.picture();
        int one = x.circles(1);
        int two = x.circles(2);
        int k = x.kinks(1);
        int hopf = x.braid(2);
        parted(x, none, one, 1);
        parted(x, one, none, 1);
        parted(x, one, two, 1);
        parted(x, two, k, 1);
        parted(x, k, hopf, 1);
        // LOOSE ones count
        x.loose(k, 1);
        x.is(x.same(k, two, 0), -1);
        x.is(x.parted(), 0);
        parted(x, k, one, 1);
        // the first of several: COLOURS would part them, too
        parted(x, x.braid(3), two, 1);
        x.is(x.count(4), 0);
    }

    @Sentence(of = "Promise 43", says = "2 to 5 COLOURS by 3, 5, 7, 11,")
    static void partedByColours() {
        Run x = new Run();
        int c = x.circles(1);
        int[] sizes = {3, 5, 7, 11, 15, 35, 33};
        int[] by = {2, 3, 4, 5, 2, 3, 2};
        for (int k = 0; k < sizes.length; k++) {
            int q = x.braid(sizes[k]);
            parted(x, c, q, by[k]);
            if (sizes[k] <= 12) {
                parted(x, q, c, by[k]);
            }
        }
        x.is(x.count(4), 0);
        // as many by each: 9 for 3, and 13 by none of them
        x.is(x.same(x.braid(3), x.braid(9), 0), 0);
        x.is(x.parted(), 6);
        x.is(x.same(c, x.braid(13), 0), 0);
        x.is(x.parted(), 6);
        // two circles apart, or linked
        parted(x, x.circles(2), x.braid(2), 2);
    }

    private static int mirrorTrefoil(Run x, int crossings) {
        int m = x.braid(3);
        x.mirror(m);
        int twist = x.move(Run.TWIST, 0, 1, 0);
        for (int n = 3; n < crossings; n++) {
            x.does(m, twist);
        }
        return m;
    }

    @Sentence(of = "Promise 43", says = "6 (of one PIECE each, without other LOOSE circles, of 14 CROSSINGS at most) the"
            + " POLYNOMIAL;")
    static void partedByPolynomials() {
        Run x = new Run();
        int t = x.braid(3);
        parted(x, t, mirrorTrefoil(x, 3), 6);
        parted(x, t, mirrorTrefoil(x, 13), 6);
        parted(x, t, mirrorTrefoil(x, 14), 6);
        x.is(x.count(4), 8 + 8 + 8 + 8192 + 8 + 16384);
        // above 14 it is not looked at
        int work = x.count(4);
        x.is(x.same(t, mirrorTrefoil(x, 15), 0), -1);
        x.is(x.parted(), 0);
        // nor with a LOOSE circle beside each, nor of two PIECES
        int m = mirrorTrefoil(x, 3);
        x.loose(t, 1);
        x.loose(m, 1);
        x.is(x.same(t, m, 0), -1);
        x.is(x.parted(), 0);
        int four = x.braid(4);
        int other = x.twin(four);
        x.mirror(other);
        x.is(x.same(four, other, 0), -1);
        x.is(x.same(x.picture(), x.picture(), 0), 1);
        x.is(x.count(4), work);
        // a LOOSE circle alone is one PIECE
        x.is(x.same(x.circles(1), x.kinks(1), 0), -1);
        x.is(x.count(4), work + 3);
        x.is(x.same(x.circles(1), x.circles(1), 0), 1);
        x.is(x.count(4), work + 5);
    }

    @Sentence(of = "Promise 43", says = "1 if a SEARCH of p, up to n STEPS (0 .. 5000), comes to a STATE LIKE q that is kept (the"
            + " first one, too; it stops there; way() leads to it);")
    static void sameComesToIt() {
        Run x = new Run();
        int p = x.kinks(3);
        int c = x.circles(1);
        // the first STATE needs no STEP
        x.is(x.same(p, x.kinks(3), 0), 1);
        x.is(x.way(0), NONE);
        x.is(x.searched(3), 0);
        x.is(x.same(p, x.kinks(3), 5000), 1);
        x.is(x.searched(3), 0);
        // 3 and 2 and 1 STEPS lead to the circle
        x.no(x.same(p, c, -1), BAD);
        x.is(x.same(p, c, 0), -1);
        x.is(x.same(p, c, 5), -1);
        x.is(x.same(p, c, 6), 1);
        x.is(x.searched(3), 6);
        x.is(x.same(p, c, 7), 1);
        x.is(x.searched(3), 6);
        x.is(x.same(p, c, 5000), 1);
        x.is(x.searched(3), 6);
        x.is(x.searched(0), 0);
        x.no(x.same(p, c, 5001), BAD);
        x.is(x.way(2), 3);
        x.is(x.way(3), NONE);
        x.is(x.like(x.check(p), c), 1);
        x.is(x.same(x.kinks(12), x.kinks(12), 0), 1);
    }

    @Sentence(of = "Promise 43", says = "else -1.")
    static void sameIsNotKnown() {
        Run x = new Run();
        int p = x.kinks(2);
        int q = x.kinks(3);
        // from fewer CROSSINGS a SEARCH does not come to more
        x.is(x.same(p, q, 5000), -1);
        x.is(x.searched(0), 1);
        x.is(x.same(q, p, 0), -1);
        x.is(x.same(q, p, 1), 1);
        x.is(x.same(p, x.kinks(40), 5000), -1);
        x.is(x.parted(), 0);
        x.is(x.findings(5), 0);
    }

    @Sentence(of = "Promise 43", says = "That SEARCH is the one that goes on from then; if a number parts, none begins.")
    static void sameLeavesItsSearch() {
        Run x = new Run();
        int p = x.kinks(3);
        int c = x.circles(1);
        int t = x.braid(3);
        x.is(x.same(p, t, 5), 0);
        x.no(x.searched(0), NOT);
        x.is(x.same(p, c, 4), -1);
        x.is(x.searched(3), 4);
        x.is(x.goOn(5000), 3);
        x.is(x.searched(1), 4);
        // behind what was found it goes on, too
        x.is(x.same(p, c, 5000), 1);
        x.is(x.goOn(5000), 1);
        x.is(x.searched(0), 1);
        // a number that parts leaves the one that was
        x.is(x.same(t, p, 5), 0);
        x.is(x.searched(0), 1);
        x.is(x.searched(3), 7);
        x.is(x.told(x.fewer(), 0), 0);
        // p's, not q's
        x.is(x.same(c, p, 0), -1);
        x.is(x.searched(2), 0);
    }

    @Sentence(of = "Promise 43", says = "THE RESULT stays.")
    static void sameLeavesTheResult() {
        Run x = new Run();
        int p = x.kinks(3);
        x.is(x.same(p, p, 0), 1);
        x.no(x.power(0), NOT);
        x.bracket(x.circles(2));
        x.is(x.same(p, p, 0), 1);
        x.is(x.at(2), -1);
        x.is(x.same(x.braid(3), mirrorTrefoil(x, 3), 0), 0);
        x.is(x.at(2), -1);
        x.is(x.power(0), -2);
        x.is(x.power(1), 2);
    }

    @Sentence(of = "Promise 43", says = "BAD; OPEN; GREAT: p above 12; SPENT (for both, when it comes to 6).")
    static void sameRefused() {
        Run x = new Run();
        int c = x.circles(1);
        int k = x.kinks(1);
        int t = x.braid(3);
        int twelve = x.kinks(12);
        int thirteen = x.kinks(13);
        int open = x.openOne();
        int two = x.circles(2);
        x.no(x.same(-1, open, 0), BAD);
        x.no(x.same(open, 7, 0), BAD);
        x.no(x.same(open, open, 5001), BAD);
        x.no(x.same(open, open, -1), BAD);
        x.no(x.same(open, c, 0), OPEN);
        x.no(x.same(thirteen, open, 0), OPEN);
        x.no(x.same(thirteen, two, 0), GREAT);
        x.no(x.same(thirteen, thirteen, 0), GREAT);
        x.is(x.same(twelve, thirteen, 0), -1);
        x.spendAllBut(5);
        x.no(x.same(thirteen, c, 0), GREAT);
        x.no(x.same(k, x.kinks(2), 0), SPENT);
        x.is(x.same(k, k, 0), 1);
        x.is(x.count(4), 999999);
        x.no(x.same(c, c, 0), SPENT);
        x.is(x.bracket(c), 1);
        x.no(x.same(c, c, 0), SPENT);
        // what does not come to 6 is not SPENT
        x.is(x.same(c, two, 0), 0);
        x.is(x.parted(), 1);
        x.is(x.same(c, t, 0), 0);
        x.is(x.parted(), 2);
        x.is(x.same(two, two, 0), 1);
        x.no(x.same(c, c, 0), SPENT);
        x.is(x.same(c, x.kinks(15), 0), -1);
        x.is(x.findings(9), 4);
    }

    @Sentence(of = "Promise 44", says = "The number by which the latest same() parted;")
    static void partedOfTheLatest() {
        Run x = new Run();
        int c = x.circles(1);
        parted(x, c, x.circles(2), 1);
        parted(x, c, x.braid(5), 3);
        parted(x, x.braid(3), mirrorTrefoil(x, 3), 6);
        // what is refused is not the latest
        x.no(x.same(c, 99, 0), BAD);
        x.no(x.same(c, c, 5001), BAD);
        x.is(x.parted(), 6);
        x.like(c, c);
        x.search(c, 5);
        x.is(x.parted(), 6);
        x.no(x.open(99), BAD);
        x.parted();
        x.hold(x.status() == BAD, "parted() leaves status()");
    }

    @Sentence(of = "Promise 44", says = "0: it did not.")
    static void partedByNone() {
        Run x = new Run();
        x.is(x.parted(), 0);
        int c = x.circles(1);
        parted(x, c, x.circles(2), 1);
        x.is(x.same(c, c, 0), 1);
        x.is(x.parted(), 0);
        parted(x, c, x.circles(2), 1);
        x.is(x.same(c, x.kinks(1), 0), -1);
        x.is(x.parted(), 0);
    }

    @Sentence(of = "Promise 45", says = "Way k (3 e + kind) to the STATE of the latest fewer(), or same() that was 1.")
    static void wayOfTheLatest() {
        Run x = new Run();
        int c = x.circles(1);
        int k = x.kinks(1);
        int mirror = x.twin(k);
        x.mirror(mirror);
        x.is(x.same(k, c, 9), 1);
        x.is(x.way(0), 3);
        // neither -1 nor 0 nor a refusal nor a SEARCH changes them
        x.is(x.same(mirror, c, 0), -1);
        x.is(x.way(0), 3);
        x.is(x.same(mirror, x.circles(2), 5), 0);
        x.is(x.way(0), 3);
        x.no(x.same(mirror, c, 5001), BAD);
        x.search(mirror, 9);
        x.is(x.way(0), 3);
        x.fewer();
        x.is(x.way(0), 0);
        x.is(x.same(k, k, 0), 1);
        x.is(x.way(0), NONE);
        // four ways, in their order
        int t = x.knot(3, 5, 11, 1, 7, 9, -1, -2);
        int twisted = x.twin(t);
        int[] ends = {0, 5, 7, 2};
        for (int sort = 0; sort < 4; sort++) {
            x.does(twisted, Run.TWIST, ends[sort], sort, 0);
        }
        x.is(x.same(twisted, t, 2000), 1);
        int[] ways = {39, 42, 36, 39, NONE};
        for (int n = 0; n < 5; n++) {
            x.is(x.way(n), ways[n]);
        }
    }

    @Sentence(of = "Promise 45", says = "NONE.")
    static void wayNone() {
        Run x = new Run();
        x.is(x.way(0), NONE);
        x.is(x.way(-1), NONE);
        x.search(x.kinks(12), 5000);
        x.is(x.way(0), NONE);
        x.fewer();
        x.is(x.way(-1), NONE);
        x.is(x.way(0), 3);
        x.is(x.way(11), 3);
        x.is(x.way(12), NONE);
        for (int far : Run.FAR) {
            x.is(x.way(far), NONE);
        }
        x.no(x.open(99), BAD);
        x.way(0);
        x.hold(x.status() == BAD, "way() leaves status()");
    }

    @Sentence(of = "Promise 46", says = "These ways (perhaps none) are gone from a PICTURE: new, if all may be done.")
    static void checkGoesTheWays() {
        Run x = new Run();
        int t = x.braid(3);
        x.is(x.check(t), 1);
        x.looks(1, 0, "0 2 3 1", "2 4 5 3", "4 0 1 5");
        x.no(x.undo(1), NOT);
        int two = x.kinks(2);
        x.search(two, 5000);
        x.fewer();
        // two ways: of three kinks one is left, of 40 there are 38
        int left = x.check(x.kinks(3));
        x.looks(left, 0, "4 5 5 4");
        x.is(x.told(x.check(x.kinks(40)), 0), 38);
        int none = x.check(two);
        x.looks(none, 1);
        x.is(x.told(two, 0), 2);
        // one of two ways alone may be done: no PICTURE comes
        int before = x.count(0);
        x.no(x.check(x.kinks(1)), NOT);
        x.is(x.count(0), before + 1);
    }

    @Sentence(of = "Promise 46", says = "BAD; FULL; OPEN; NOT.")
    static void checkRefused() {
        Run x = new Run();
        int k = x.kinks(2);
        int open = x.openOne();
        int c = x.circles(1);
        x.search(k, 5000);
        x.fewer();
        x.no(x.check(-1), BAD);
        x.no(x.check(4), BAD);
        x.no(x.check(open), OPEN);
        x.no(x.check(c), NOT);
        // ten circles would come
        x.loose(k, 9);
        x.no(x.check(k), NOT);
        x.loose(k, 8);
        x.is(x.check(k), 4);
        x.fillPictures(23);
        x.is(x.check(k), 23);
        x.no(x.check(k), FULL);
        x.no(x.check(open), FULL);
        x.no(x.check(c), FULL);
        x.no(x.check(24), BAD);
        for (int far : Run.FAR) {
            x.no(x.check(far), BAD);
        }
    }
}
