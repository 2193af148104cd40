/** Promises 31 to 37: moves. */
final class EdgesOfMoves {
    private static final int NONE = Run.NONE, BAD = Run.BAD, FULL = Run.FULL, OPEN = Run.OPEN, UNFIT = Run.UNFIT;
    private static final int NOT = Run.NOT, MANY = Run.MANY;
    private static final int[][] BODIES = {{1}, {2, 1, 1}, {3}, {3}, {5}, {6}};
    private static final int[] MORE = {1, 2, 0, 0, -1, 0};

    private EdgesOfMoves() {
    }

    private static Run withOneOfEachKind() {
        Run x = new Run();
        for (int kind = 0; kind < 6; kind++) {
            x.move(kind, -2, -15, 100 + kind);
        }
        return x;
    }

    @Sentence(of = "Promise 31", says = "A MOVE: its number.")
    static void moveNumbers() {
        Run x = new Run();
        for (int m = 0; m < 60; m++) {
            x.is(x.move(m % 6, -m, 0, 0), m);
        }
        x.is(x.tells(0, 1), 0);
        x.is(x.tells(59, 1), -59);
    }

    @Sentence(of = "Promise 31", says = "BAD (KIND); FULL.")
    static void moveRefused() {
        Run x = new Run();
        x.no(x.move(-1, 0, 0, 0), BAD);
        x.is(x.move(0, 0, 0, 0), 0);
        x.is(x.move(5, 0, 0, 0), 1);
        x.no(x.move(6, 0, 0, 0), BAD);
        for (int far : Run.FAR) {
            x.no(x.move(far, 0, 0, 0), BAD);
        }
        for (int m = 2; m < 60; m++) {
            // no other number is BAD
            x.is(x.move(m % 6, Integer.MIN_VALUE, -1, Integer.MAX_VALUE), m);
        }
        x.no(x.move(0, 0, 0, 0), FULL);
        x.no(x.move(6, 0, 0, 0), BAD);
        x.no(x.move(-1, 0, 0, 0), BAD);
        x.is(x.count(1), 60);
    }

    @Sentence(of = "Promise 32", says = "Of a MOVE: what = 0 its KIND, 1 to 3 a, b, c,")
    static void tellsNumbers() {
        Run x = withOneOfEachKind();
        for (int m = 0; m < 6; m++) {
            x.is(x.tells(m, 0), m);
            x.is(x.tells(m, 1), -2);
            x.is(x.tells(m, 2), -15);
            x.is(x.tells(m, 3), 100 + m);
        }
        int far = x.move(0, Integer.MIN_VALUE, Integer.MAX_VALUE, -1);
        x.is(x.tells(far, 1), Integer.MIN_VALUE);
        x.is(x.tells(far, 2), Integer.MAX_VALUE);
        x.is(x.tells(far, 3), -1);
    }

    @Sentence(of = "Promise 32", says = "4 how many CROSSINGS more it makes, told by its BODIES: TWIST 1, POKE what TWIST tells"
            + " and that once more (its BODY, then TWIST's twice), SLIDE 0, SMOOTH -1, CHANGE 0;")
    static void tellsCrossings() {
        Run x = withOneOfEachKind();
        for (int m = 0; m < 6; m++) {
            x.is(x.tells(m, 4), MORE[m]);
            for (int k = 0; k < 4; k++) {
                x.is(x.trace(k), k < BODIES[m].length ? BODIES[m][k] : NONE);
            }
        }
    }

    @Sentence(of = "Promise 32", says = "5 whether that is 0 (by the same BODIES).")
    static void tellsWhetherNone() {
        Run x = withOneOfEachKind();
        for (int m = 5; m >= 0; m--) {
            x.is(x.tells(m, 5), MORE[m] == 0 ? 1 : 0);
            for (int k = 0; k < 4; k++) {
                x.is(x.trace(k), k < BODIES[m].length ? BODIES[m][k] : NONE);
            }
        }
    }

    @Sentence(of = "Promise 32", says = "BAD.")
    static void tellsBad() {
        Run x = new Run();
        x.no(x.tells(0, 0), BAD);
        int m = x.move(2, 0, 0, 0);
        x.no(x.tells(m, -1), BAD);
        x.is(x.tells(m, 0), 2);
        x.is(x.tells(m, 5), 1);
        x.no(x.tells(m, 6), BAD);
        x.no(x.tells(-1, 0), BAD);
        x.no(x.tells(1, 0), BAD);
        for (int far : Run.FAR) {
            x.no(x.tells(far, 0), BAD);
            x.no(x.tells(m, far), BAD);
        }
    }

    @Sentence(of = "Promise 33", says = "A MOVE is taken for one of a KIND: 1.")
    static void asEachKind() {
        Run x = withOneOfEachKind();
        for (int m = 0; m < 6; m++) {
            x.is(x.as(m, m), 1);
        }
        x.is(x.as(Run.POKE, Run.TWIST), 1);
        x.is(x.as(Run.FLYPE, Run.SLIDE), 1);
        x.is(x.as(Run.CHANGE, Run.SMOOTH), 1);
        // it stays what it is
        x.is(x.tells(Run.POKE, 0), Run.POKE);
    }

    @Sentence(of = "Promise 33", says = "BAD; UNFIT.")
    static void asRefused() {
        Run x = withOneOfEachKind();
        int unfit = 0;
        for (int m = 0; m < 6; m++) {
            for (int kind = 0; kind < 6; kind++) {
                if (m != kind && !(m % 2 == 1 && kind == m - 1)) {
                    x.no(x.as(m, kind), UNFIT);
                    unfit++;
                }
            }
            x.no(x.as(m, -1), BAD);
            x.no(x.as(m, 6), BAD);
        }
        x.is(x.findings(4), unfit);
        x.no(x.as(-1, 0), BAD);
        x.no(x.as(6, 0), BAD);
        for (int far : Run.FAR) {
            x.no(x.as(far, 0), BAD);
            x.no(x.as(0, far), BAD);
        }
    }

    @Sentence(of = "Promise 34", says = "Whether it may be done: 1.")
    static void mayChangesNothing() {
        Run x = new Run();
        int p = x.kinks(2);
        long before = x.digest();
        for (int kind = 0; kind < 6; kind++) {
            int answer = x.may(p, x.move(kind, 0, kind == Run.POKE ? 2 : 0, 0));
            x.hold(answer == (kind == Run.SLIDE || kind == Run.FLYPE ? NOT : 1), "of kind " + kind);
        }
        x.is(x.digest(), before);
        x.no(x.undo(p), NOT);
    }

    /** The chain that may() and does() share. */
    private static void refusedMoves(boolean done) {
        Run x = new Run();
        int p = x.kinks(39);
        int most = x.kinks(40);
        int open = x.twin(most);
        x.put(open, 0, 0, -1);
        int twist = x.move(Run.TWIST, 0, 0, 0);
        int none = x.move(Run.TWIST, 160, 0, 0);
        x.no(ask(x, done, -1, twist), BAD);
        x.no(ask(x, done, 3, twist), BAD);
        x.no(ask(x, done, p, -1), BAD);
        x.no(ask(x, done, p, 2), BAD);
        x.no(ask(x, done, open, 2), BAD);
        x.no(ask(x, done, open, none), OPEN);
        x.no(ask(x, done, open, twist), OPEN);
        x.no(ask(x, done, most, none), NOT);
        x.no(ask(x, done, most, twist), MANY);
        x.is(ask(x, done, p, twist), 1);
        x.is(x.told(p, 0), done ? 40 : 39);
        int circle = x.kinks(1);
        x.loose(circle, 8);
        int smooth = x.move(Run.SMOOTH, 0, 1, 0);
        x.no(ask(x, done, circle, smooth), MANY);
        x.loose(circle, 7);
        x.is(ask(x, done, circle, smooth), 1);
        x.is(x.told(circle, 1), done ? 9 : 7);
        for (int far : Run.FAR) {
            x.no(ask(x, done, far, twist), BAD);
            x.no(ask(x, done, p, far), BAD);
        }
    }

    private static int ask(Run x, boolean done, int p, int m) {
        return done ? x.does(p, m) : x.may(p, m);
    }

    @Sentence(of = "Promise 34", says = "BAD; OPEN; NOT; MANY.")
    static void mayRefused() {
        refusedMoves(false);
    }

    @Sentence(of = "Promise 35", says = "It is done: 1.")
    static void doesIt() {
        Run x = new Run();
        int p = x.kinks(1);
        int m = x.move(Run.TWIST, 0, 0, 0);
        x.is(x.does(p, m), 1);
        x.looks(p, 0, "0 1 1 3", "0 2 2 3");
        x.is(x.does(p, m), 1);
        x.looks(p, 0, "0 1 1 3", "5 2 2 3", "0 4 4 5");
        int q = x.kinks(1);
        x.is(x.does(q, m), 1);
        x.is(x.told(p, 0), 3);
        x.is(x.undo(p), 1);
    }

    @Sentence(of = "Promise 35", says = "As may().")
    static void doesRefused() {
        refusedMoves(true);
        Run x = new Run();
        int p = x.kinks(1);
        long before = x.digest();
        x.no(x.does(p, Run.CHANGE, 1, 0, 0), NOT);
        x.is(x.digest(), before);
        x.no(x.undo(p), NOT);
    }

    @Sentence(of = "Promise 36", says = "It is UNDONE, by its numbers, whether it was done or not: 1.")
    static void undoesWhatWasNotDone() {
        Run x = new Run();
        int p = x.kinks(2);
        // no TWIST was done, but there is a kink at END 5
        int m = x.move(Run.TWIST, 5, 99, 99);
        x.is(x.undoes(p, m), 1);
        x.looks(p, 0, "0 1 1 0");
        x.no(x.undoes(p, m), NOT);
        x.is(x.undo(p), 0);
        // what was done at END 0 makes a kink elsewhere: by its numbers it is not undone
        int t = x.braid(3);
        int twist = x.move(Run.TWIST, 0, 0, 0);
        x.is(x.does(t, twist), 1);
        x.no(x.undoes(t, twist), NOT);
        x.is(x.undoes(t, Run.TWIST, 13, 0, 0), 1);
        x.is(x.told(t, 0), 3);
        x.is(x.undoes(t, Run.CHANGE, 0, 0, 0), 1);
        x.is(x.undo(t), 2);
    }

    @Sentence(of = "Promise 36", says = "BAD; UNFIT: SMOOTH; OPEN; NOT; MANY.")
    static void undoesRefused() {
        Run x = new Run();
        int p = x.kinks(1);
        int open = x.openOne();
        int smooth = x.move(Run.SMOOTH, 99, 0, 0);
        int change = x.move(Run.CHANGE, 99, 0, 0);
        int kink = x.move(Run.TWIST, 1, 0, 0);
        x.no(x.undoes(-1, smooth), BAD);
        x.no(x.undoes(2, smooth), BAD);
        x.no(x.undoes(p, -1), BAD);
        x.no(x.undoes(p, 3), BAD);
        x.no(x.undoes(open, smooth), UNFIT);
        x.no(x.undoes(p, smooth), UNFIT);
        x.no(x.undoes(open, change), OPEN);
        x.no(x.undoes(p, change), NOT);
        x.loose(p, 9);
        x.no(x.undoes(p, x.move(Run.TWIST, 0, 0, 0)), NOT);
        x.no(x.undoes(p, kink), MANY);
        x.loose(p, 8);
        x.is(x.undoes(p, kink), 1);
        x.is(x.told(p, 1), 9);
        // 40 CROSSINGS are not many to undo
        x.is(x.undoes(x.kinks(40), kink), 1);
        for (int far : Run.FAR) {
            x.no(x.undoes(far, kink), BAD);
            x.no(x.undoes(p, far), BAD);
        }
    }

    @Sentence(of = "Promise 37", says = "Number k of TRACE: BODIES of the latest tells() that was not BAD, in order (none behind 0"
            + " to 3).")
    static void traceOfTheLatest() {
        Run x = withOneOfEachKind();
        x.tells(Run.POKE, 4);
        x.is(x.trace(0), 2);
        x.is(x.trace(1), 1);
        x.is(x.trace(2), 1);
        x.no(x.tells(Run.POKE, 6), BAD);
        x.no(x.tells(6, 4), BAD);
        x.no(x.as(Run.TWIST, Run.POKE), UNFIT);
        x.as(Run.POKE, Run.TWIST);
        x.move(0, 0, 0, 0);
        x.is(x.trace(2), 1);
        x.tells(Run.SMOOTH, 5);
        x.is(x.trace(0), 5);
        x.is(x.trace(1), NONE);
        for (int what = 0; what <= 3; what++) {
            x.tells(Run.POKE, 4);
            x.tells(Run.POKE, what);
            x.is(x.trace(0), NONE);
        }
    }

    @Sentence(of = "Promise 37", says = "NONE.")
    static void traceNone() {
        Run x = withOneOfEachKind();
        x.is(x.trace(0), NONE);
        x.tells(Run.POKE, 4);
        x.is(x.trace(-1), NONE);
        x.is(x.trace(2), 1);
        x.is(x.trace(3), NONE);
        x.tells(Run.CHANGE, 4);
        x.is(x.trace(0), 6);
        x.is(x.trace(1), NONE);
        for (int far : Run.FAR) {
            x.is(x.trace(far), NONE);
        }
        x.hold(x.status() == 0, "trace() leaves status()");
    }
}
