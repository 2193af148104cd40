import java.util.ArrayList;
import java.util.List;
import java.util.function.ToLongFunction;

/** Part 5 of the terms: REFUSALS, FINDINGS, BODIES. */
final class EdgesOfRefusals {
    private static final int NONE = Run.NONE, BAD = Run.BAD, FULL = Run.FULL, LACKING = Run.LACKING;
    private static final int BEYOND = Run.BEYOND, OPEN = Run.OPEN, UNFIT = Run.UNFIT, NOT = Run.NOT, EMPTY = Run.EMPTY;
    private static final int GREAT = Run.GREAT, MANY = Run.MANY, SPENT = Run.SPENT;

    private EdgesOfRefusals() {
    }

    @Sentence(of = "Terms 5", says = "REFUSALS are answers below 0, of several the first:")
    static void ofSeveralTheFirst() {
        Run x = new Run();
        int great = x.kinks(40);
        int open = x.twin(great);
        x.put(open, 0, 0, -1);
        x.row(open, 1, -1);
        int smooth = x.move(Run.SMOOTH, 99, 99, 99);
        // BAD and OPEN and GREAT; OPEN and GREAT; GREAT alone
        x.no(x.search(open, 5001), BAD);
        x.no(x.search(open, 5000), OPEN);
        x.no(x.search(great, 5000), GREAT);
        // BAD and UNFIT and OPEN and NOT; UNFIT and OPEN and NOT; OPEN and NOT; NOT alone
        x.no(x.undoes(24, smooth), BAD);
        x.no(x.undoes(open, smooth), UNFIT);
        x.no(x.does(open, smooth), OPEN);
        x.no(x.does(great, smooth), NOT);
        // BEYOND and LACKING; LACKING and BEYOND; BEYOND alone
        x.no(x.end(open, 40, 9), BEYOND);
        x.no(x.end(open, 1, 9), LACKING);
        x.no(x.end(open, 0, 9), BEYOND);
        // BAD and FULL; FULL and OPEN; OPEN and NOT; NOT and MANY; MANY alone
        x.no(x.join(open, 999, -1, 0), BAD);
        x.no(x.join(open, 999, great, 0), OPEN);
        x.no(x.join(great, 160, great, 0), NOT);
        x.no(x.join(great, 159, great, 0), MANY);
        x.fillPictures(24);
        x.no(x.join(open, 999, 24, 0), BAD);
        x.no(x.join(open, 999, great, 0), FULL);
    }

    /** Each call of a PICTURE, its other numbers being as told. */
    private static List<ToLongFunction<Run>> callsOf(int p, int whole, int m) {
        List<ToLongFunction<Run>> all = new ArrayList<>();
        all.add(x -> x.crossing(p, 0, 0, 0, 0));
        all.add(x -> x.row(p, 0, 4));
        all.add(x -> x.end(p, 0, 0));
        all.add(x -> x.put(p, 0, 0, 0));
        all.add(x -> x.copy(p, 0, 0, whole, 0, 0, 0));
        all.add(x -> x.copy(whole, 0, 0, p, 0, 0, 0));
        all.add(x -> x.loose(p, 0));
        all.add(x -> x.open(p));
        all.add(x -> x.told(p, 0));
        all.add(x -> x.mirror(p));
        all.add(x -> x.turn(p));
        all.add(x -> x.join(p, 0, whole, 0));
        all.add(x -> x.join(whole, 0, p, 0));
        all.add(x -> x.twin(p));
        all.add(x -> x.undo(p));
        all.add(x -> x.sign(p, 0));
        all.add(x -> x.pieceOf(p, 0));
        all.add(x -> x.linking(p, 0, 1));
        all.add(x -> x.colours(p, 3));
        all.add(x -> x.bracket(p));
        all.add(x -> x.polynomial(p));
        all.add(x -> x.determinant(p));
        all.add(x -> x.gauss(p));
        all.add(x -> x.may(p, m));
        all.add(x -> x.does(p, m));
        all.add(x -> x.undoes(p, m));
        all.add(x -> x.like(p, whole));
        all.add(x -> x.like(whole, p));
        all.add(x -> x.search(p, 0));
        all.add(x -> x.same(p, whole, 0));
        all.add(x -> x.same(whole, p, 0));
        all.add(x -> x.check(p));
        all.add(x -> x.book(p, 5));
        all.add(x -> x.name(p));
        return all;
    }

    @Sentence(of = "Terms 5", says = "BAD -2 (no such PICTURE or MOVE, a number not as told),")
    static void bad() {
        int[] none = {-2, -1, 2, 3, Integer.MIN_VALUE, Integer.MAX_VALUE};
        for (int p : none) {
            Run x = new Run();
            int whole = x.kinks(1);
            x.picture();
            int m = x.move(Run.CHANGE, 0, 0, 0);
            for (ToLongFunction<Run> call : callsOf(p, whole, m)) {
                x.no(call.applyAsLong(x), BAD);
            }
            for (int finding = 1; finding <= 9; finding++) {
                x.is(x.findings(finding), 0);
            }
        }
        // the last PICTURE that there is, is not BAD to any of them
        for (int k = 0; k < callsOf(1, 0, 0).size(); k++) {
            Run x = new Run();
            int whole = x.kinks(1);
            int p = x.kinks(1);
            x.move(Run.CHANGE, 0, 0, 0);
            x.hold(callsOf(p, whole, 0).get(k).applyAsLong(x) != BAD, "is not BAD");
        }
        int[] noMoves = {-1, 1, Integer.MIN_VALUE, Integer.MAX_VALUE};
        Run x = new Run();
        int p = x.kinks(1);
        int m = x.move(Run.CHANGE, 0, 0, 0);
        for (int other : noMoves) {
            x.no(x.tells(other, 0), BAD);
            x.no(x.as(other, 0), BAD);
            x.no(x.may(p, other), BAD);
            x.no(x.does(p, other), BAD);
            x.no(x.undoes(p, other), BAD);
        }
        x.is(x.tells(m, 0), 5);
        x.is(x.may(p, m), 1);
        x.hold(BAD == KnotTable.BAD && BAD == -2, "BAD is -2");
    }

    @Sentence(of = "Terms 5", says = "FULL -3;")
    static void full() {
        Run x = new Run();
        x.hold(KnotTable.FULL == -3, "FULL is -3");
        x.fillPictures(23);
        x.is(x.picture(), 23);
        x.no(x.picture(), -3);
        for (int k = 0; k < 130; k++) {
            x.type(k);
        }
        x.no(x.type(130), -3);
        for (int finding = 1; finding <= 9; finding++) {
            x.is(x.findings(finding), 0);
        }
    }

    @Sentence(of = "Terms 5", says = "then FINDINGS, -10 less: 1 LACKING (a ROW is none),")
    static void lacking() {
        Run x = new Run();
        int p = x.kinks(2);
        x.row(p, 1, -1);
        x.no(x.end(p, 1, 0), -11);
        x.no(x.put(p, 1, 0, 0), -11);
        x.no(x.copy(p, 1, 0, p, 0, 0, 1), -11);
        x.no(x.copy(p, 0, 0, p, 1, 0, 1), -11);
        x.is(x.findings(1), 4);
        // a ROW of no ENDS is not none
        x.row(p, 1, 0);
        x.no(x.end(p, 1, 0), BEYOND);
        x.is(x.copy(p, 1, 0, p, 0, 0, 0), 1);
        x.is(x.findings(1), 4);
    }

    @Sentence(of = "Terms 5", says = "2 BEYOND (no such CROSSING, END),")
    static void beyond() {
        Run x = new Run();
        int p = x.kinks(2);
        x.no(x.row(p, 2, 4), -12);
        x.no(x.end(p, -1, 0), -12);
        x.no(x.end(p, 0, 4), -12);
        x.no(x.sign(p, 2), -12);
        x.no(x.pieceOf(p, 8), -12);
        x.is(x.findings(2), 5);
        x.is(x.row(p, 1, 4), 1);
        x.is(x.end(p, 1, 3), 0);
        x.is(x.sign(p, 1), -1);
        x.is(x.pieceOf(p, 7), 0);
        x.is(x.findings(2), 5);
    }

    @Sentence(of = "Terms 5", says = "3 OPEN,")
    static void open() {
        Run x = new Run();
        int p = x.openOne();
        int k = x.kinks(1);
        int m = x.move(Run.CHANGE, 0, 0, 0);
        int asked = 0;
        for (ToLongFunction<Run> call : callsOf(p, k, m).subList(17, 34)) {
            x.no(call.applyAsLong(x), -13);
            asked++;
        }
        x.is(x.findings(3), asked);
        x.put(p, 0, 2, 1);
        x.put(p, 0, 3, 0);
        x.is(x.mirror(p), 1);
        x.is(x.findings(3), asked);
    }

    @Sentence(of = "Terms 5", says = "4 UNFIT (a MOVE that does not do this),")
    static void unfit() {
        Run x = new Run();
        int p = x.kinks(1);
        int smooth = x.move(Run.SMOOTH, 0, 0, 0);
        x.no(x.undoes(p, smooth), -14);
        x.no(x.as(smooth, Run.CHANGE), -14);
        x.no(x.as(smooth, Run.FLYPE), -14);
        x.is(x.findings(4), 3);
        x.is(x.as(smooth, Run.SMOOTH), 1);
        x.is(x.undoes(p, x.move(Run.CHANGE, 0, 0, 0)), 1);
        x.is(x.does(p, smooth), 1);
        x.is(x.findings(4), 3);
    }

    @Sentence(of = "Terms 5", says = "5 NOT,")
    static void not() {
        Run x = new Run();
        int p = x.kinks(1);
        x.no(x.undo(p), -15);
        x.no(x.power(0), -15);
        x.no(x.goOn(0), -15);
        x.no(x.searched(0), -15);
        x.no(x.fewer(), -15);
        x.no(x.ofGauss(), -15);
        x.no(x.linking(p, 0, 0), -15);
        x.no(x.may(p, Run.CHANGE, 1, 0, 0), -15);
        x.is(x.findings(5), 8);
    }

    @Sentence(of = "Terms 5", says = "6 EMPTY (neither CROSSING nor LOOSE circle),")
    static void empty() {
        Run x = new Run();
        int p = x.picture();
        x.no(x.bracket(p), -16);
        x.no(x.polynomial(p), -16);
        x.no(x.determinant(p), -16);
        x.no(x.book(p, 7), -16);
        x.no(x.name(p), -16);
        x.is(x.findings(6), 5);
        x.loose(p, 1);
        x.is(x.bracket(p), 1);
        x.loose(p, 0);
        x.no(x.bracket(p), EMPTY);
        x.is(x.bracket(x.kinks(1)), 1);
        x.is(x.findings(6), 6);
    }

    @Sentence(of = "Terms 5", says = "7 GREAT (more CROSSINGS than told),")
    static void great() {
        Run x = new Run();
        int[] sizes = {10, 11, 12, 13, 14, 15};
        int refused = 0;
        for (int n : sizes) {
            int p = x.kinks(n);
            refused += great(x, x.name(p), n > 10) + great(x, x.book(p, n), n > 10) + great(x, x.search(p, 0), n > 12)
                    + great(x, x.same(p, p, 0), n > 12) + great(x, x.bracket(p), n > 14)
                    + great(x, x.polynomial(p), n > 14) + great(x, x.determinant(p), n > 14);
        }
        x.is(x.findings(7), refused);
        x.is(refused, 5 + 5 + 3 + 3 + 1 + 1 + 1);
    }

    private static int great(Run x, long answer, boolean so) {
        x.hold(answer == -17 == so, "is GREAT or not");
        x.hold(x.status() == (so ? GREAT : 0), "status() says so");
        return so ? 1 : 0;
    }

    @Sentence(of = "Terms 5", says = "8 MANY,")
    static void many() {
        Run x = new Run();
        int p = x.kinks(40);
        int q = x.kinks(39);
        int k = x.kinks(1);
        int twist = x.move(Run.TWIST, 0, 0, 0);
        int untwist = x.move(Run.TWIST, 1, 0, 0);
        x.no(x.may(p, twist), -18);
        x.no(x.join(p, 0, k, 0), -18);
        x.loose(k, 9);
        x.no(x.undoes(k, untwist), -18);
        x.is(x.findings(8), 3);
        x.is(x.may(q, twist), 1);
        x.loose(k, 8);
        x.is(x.join(q, 0, k, 0), 3);
        x.is(x.undoes(k, untwist), 1);
        x.is(x.findings(8), 3);
        x.hold(MANY == -18, "MANY is -18");
    }

    @Sentence(of = "Terms 5", says = "9 SPENT (WORK).")
    static void spent() {
        Run x = new Run();
        x.spendAllBut(1);
        int c = x.circles(1);
        int k = x.kinks(1);
        x.no(x.bracket(k), -19);
        x.is(x.findings(9), 1);
        x.is(x.bracket(c), 1);
        x.is(x.findings(9), 1);
        x.no(x.bracket(c), SPENT);
        x.is(x.findings(9), 2);
    }

    /** A house in which all that can be changed is other than in a new one. */
    private static Run furnished() {
        Run x = new Run();
        int p = x.knot(3, 5, 11, 1, 7, 9, -1, -2);
        int k = x.kinks(2);
        int open = x.openOne();
        x.row(open, 0, -1);
        x.picture();
        x.kinks(15);
        x.loose(4, 9);
        x.move(Run.TWIST, 0, 0, 0);
        x.move(Run.SMOOTH, 9, 0, 0);
        x.move(Run.POKE, 0, 0, 0);
        x.move(Run.TWIST, 1, 0, 0);
        x.does(p, 0);
        x.mirror(k);
        x.turn(k);
        x.bracket(p);
        x.book(p, 77);
        x.same(p, k, 5);
        x.search(k, 1);
        x.fewer();
        x.tells(2, 4);
        x.open(open);
        x.clear();
        x.type(4);
        x.type(6);
        return x;
    }

    private static String all(Run x) {
        StringBuilder told = new StringBuilder().append(x.digest());
        for (int what = 0; what < 5; what++) {
            told.append(' ').append(x.count(what));
        }
        for (int k = 0; k < 5; k++) {
            told.append(' ').append(x.item(k)).append(' ').append(x.way(k)).append(' ').append(x.trace(k));
        }
        for (int power = -30; power <= 30; power++) {
            told.append(' ').append(x.at(power));
        }
        told.append(" where ").append(x.where()).append(" parted ").append(x.parted());
        for (int what = 0; what < 4; what++) {
            told.append(' ').append(x.searched(what));
        }
        told.append(" power ").append(x.power(0)).append(' ').append(x.goOn(2)).append(' ').append(x.searched(1));
        for (int p = 0; p < 6; p++) {
            told.append(' ').append(x.undo(p));
        }
        return told.append(' ').append(x.name(0)).append(' ').append(x.fewer()).append(' ').append(x.digest()).toString();
    }

    private static List<ToLongFunction<Run>> refusedCalls() {
        List<ToLongFunction<Run>> all = new ArrayList<>(callsOf(6, 0, 0));
        all.addAll(callsOf(2, 0, 0).subList(17, 34));
        all.add(x -> x.crossing(0, 1, 2, 3, 100));
        all.add(x -> x.row(0, 0, 5));
        all.add(x -> x.row(0, 9, 1));
        all.add(x -> x.end(2, 0, 0));
        all.add(x -> x.put(0, 0, 0, 100));
        all.add(x -> x.put(0, 0, 4, 1));
        all.add(x -> x.put(2, 0, 0, 1));
        all.add(x -> x.copy(0, 0, 1, 0, 1, 0, 4));
        all.add(x -> x.copy(0, 0, 0, 2, 0, 0, 1));
        all.add(x -> x.loose(0, 10));
        all.add(x -> x.told(0, 6));
        all.add(x -> x.join(0, 16, 0, 0));
        all.add(x -> x.join(4, 0, 4, 0));
        all.add(x -> x.undo(3));
        all.add(x -> x.sign(0, 4));
        all.add(x -> x.pieceOf(0, 16));
        all.add(x -> x.linking(0, 0, 0));
        all.add(x -> x.colours(0, 9));
        all.add(x -> x.bracket(3));
        all.add(x -> x.polynomial(4));
        all.add(x -> x.determinant(4));
        all.add(x -> x.power(2));
        all.add(x -> x.ofGauss());
        all.add(x -> x.move(6, 0, 0, 0));
        all.add(x -> x.tells(4, 4));
        all.add(x -> x.tells(0, 6));
        all.add(x -> x.as(0, 1));
        all.add(x -> x.may(0, 1));
        all.add(x -> x.does(0, 1));
        all.add(x -> x.does(0, 2));
        all.add(x -> x.undoes(0, 1));
        all.add(x -> x.undoes(0, 2));
        all.add(x -> x.search(0, 5001));
        all.add(x -> x.search(4, 1));
        all.add(x -> x.goOn(-1));
        all.add(x -> x.searched(4));
        all.add(x -> x.same(4, 0, 1));
        all.add(x -> x.same(0, 0, 5001));
        all.add(x -> x.check(3));
        all.add(x -> x.book(0, 0));
        all.add(x -> x.book(1, 77));
        all.add(x -> x.book(4, 78));
        all.add(x -> x.name(4));
        all.add(x -> x.name(3));
        return all;
    }

    @Sentence(of = "Terms 5", says = "What is refused changes nothing but status() and findings().")
    static void refusedChangesNothing() {
        String before = all(furnished());
        for (ToLongFunction<Run> call : refusedCalls()) {
            Run x = furnished();
            long answer = call.applyAsLong(x);
            x.hold(answer < 0, "is refused");
            x.hold(x.status() == answer, "status() says so");
            x.hold(x.findings(1) + x.findings(2) + x.findings(3) + x.findings(4) + x.findings(5) + x.findings(6)
                    + x.findings(7) + x.findings(8) + x.findings(9) == (answer <= -11 ? 1 : 0), "findings() says so");
            String after = all(x);
            x.hold(before.equals(after), "nothing is changed: " + before + " and " + after);
        }
    }

    @Sentence(of = "Terms 5", says = "BODIES are told by trace(): 1 TWIST's, 2 POKE's, 3 SLIDE's (FLYPE's, too), 5 SMOOTH's, 6"
            + " CHANGE's telling.")
    static void bodies() {
        Run x = new Run();
        int[][] bodies = {{1}, {2, 1, 1}, {3}, {3}, {5}, {6}};
        for (int kind = 0; kind < 6; kind++) {
            int m = x.move(kind, 0, 0, 0);
            x.tells(m, 4);
            for (int k = -1; k <= 3; k++) {
                x.is(x.trace(k), k >= 0 && k < bodies[kind].length ? bodies[kind][k] : NONE);
            }
        }
    }
}
