import java.util.ArrayList;
import java.util.List;
import java.util.function.ToLongFunction;

/** Promises 47 to 52: the book, and what is told. */
final class EdgesOfBook {
    private static final int BAD = Run.BAD, FULL = Run.FULL, OPEN = Run.OPEN, NOT = Run.NOT, EMPTY = Run.EMPTY;
    private static final int GREAT = Run.GREAT, SPENT = Run.SPENT;

    private EdgesOfBook() {
    }

    @Sentence(of = "Promise 47", says = "A name (not 0) for the POLYNOMIAL of a PICTURE: how many names there are; THE RESULT"
            + " stays.")
    static void booked() {
        Run x = new Run();
        int c = x.circles(1);
        int t = x.braid(3);
        long[] names = {1, -1, Long.MIN_VALUE, Long.MAX_VALUE, 1L << 32, -2, -15};
        for (int k = 0; k < names.length; k++) {
            x.is(x.book(k % 2 == 0 ? c : t, names[k]), k + 1);
        }
        x.no(x.book(c, 0), BAD);
        x.is(x.count(2), names.length);
        x.no(x.power(0), NOT);
        x.bracket(x.circles(2));
        x.is(x.book(t, 77), names.length + 1);
        x.is(x.at(2), -1);
        x.is(x.power(1), 2);
    }

    @Sentence(of = "Promise 47", says = "BAD: also 0; FULL: 200; OPEN;")
    static void bookUpTo200() {
        Run x = new Run();
        int c = x.circles(1);
        int open = x.openOne();
        for (int k = 1; k < 199; k++) {
            x.book(c, k);
        }
        x.is(x.count(2), 198);
        x.no(x.book(open, 199), OPEN);
        x.is(x.book(c, 199), 199);
        x.is(x.book(c, 200), 200);
        x.no(x.book(c, 201), FULL);
        x.no(x.book(c, 1), FULL);
        x.no(x.book(open, 201), FULL);
        x.no(x.book(c, 0), BAD);
        x.no(x.book(-1, 201), BAD);
        x.no(x.book(2, 201), BAD);
        x.is(x.count(2), 200);
        x.is(x.name(c), 1);
        for (int far : Run.FAR) {
            x.no(x.book(far, 5), BAD);
        }
    }

    @Sentence(of = "Promise 47", says = "EMPTY; GREAT: above 10; SPENT; NOT: the name is there.")
    static void bookRefused() {
        Run x = new Run();
        int c = x.circles(1);
        int k = x.kinks(1);
        int e = x.picture();
        int ten = x.kinks(10);
        int eleven = x.kinks(11);
        int open = x.twin(eleven);
        x.put(open, 0, 0, -1);
        x.is(x.book(c, 5), 1);
        x.no(x.book(open, 5), OPEN);
        x.no(x.book(e, 5), EMPTY);
        x.no(x.book(eleven, 5), GREAT);
        x.no(x.book(k, 5), NOT);
        x.no(x.book(c, 5), NOT);
        x.is(x.count(4), 1);
        x.is(x.book(ten, 6), 2);
        x.is(x.count(4), 1 + 1024);
        x.spendAllBut(2);
        x.no(x.book(k, 5), NOT);
        x.is(x.book(k, 7), 3);
        x.no(x.book(c, 5), SPENT);
        x.no(x.book(c, 8), SPENT);
        x.no(x.book(eleven, 8), GREAT);
        x.no(x.book(e, 8), EMPTY);
        x.is(x.count(2), 3);
        x.is(x.count(4), 1000000);
    }

    @Sentence(of = "Promise 48", says = "The name that was told first of those with its POLYNOMIAL;")
    static void namedFirst() {
        Run x = new Run();
        int c = x.circles(1);
        int t = x.braid(3);
        x.book(t, Long.MIN_VALUE);
        x.book(c, -2);
        x.book(t, 31);
        x.book(c, 1L << 32);
        x.is(x.name(t), Long.MIN_VALUE);
        x.is(x.name(c), -2);
        x.is(x.name(x.kinks(10)), -2);
        // what becomes of a PICTURE does not change what was told of it
        x.mirror(t);
        x.is(x.name(t), 0);
        x.is(x.name(x.braid(3)), Long.MIN_VALUE);
    }

    @Sentence(of = "Promise 48", says = "0: none; THE RESULT stays.")
    static void nameNone() {
        Run x = new Run();
        int c = x.circles(1);
        int two = x.circles(2);
        x.is(x.name(c), 0);
        x.no(x.power(0), NOT);
        x.bracket(two);
        x.is(x.name(c), 0);
        x.is(x.at(2), -1);
        x.is(x.power(0), -2);
        x.book(two, 9);
        x.is(x.name(c), 0);
        x.is(x.name(two), 9);
        x.is(x.name(x.circles(3)), 0);
    }

    @Sentence(of = "Promise 48", says = "BAD; OPEN; EMPTY; GREAT: above 10; SPENT.")
    static void nameRefused() {
        Run x = new Run();
        x.no(x.name(0), BAD);
        int k = x.kinks(1);
        int e = x.picture();
        int ten = x.kinks(10);
        int eleven = x.kinks(11);
        int open = x.twin(eleven);
        x.put(open, 0, 0, -1);
        x.no(x.name(-1), BAD);
        x.no(x.name(5), BAD);
        x.no(x.name(open), OPEN);
        x.no(x.name(e), EMPTY);
        x.no(x.name(eleven), GREAT);
        x.is(x.count(4), 0);
        x.is(x.name(ten), 0);
        x.is(x.count(4), 1024);
        x.spendAllBut(2);
        x.is(x.name(k), 0);
        x.no(x.name(k), SPENT);
        x.no(x.name(eleven), GREAT);
        x.no(x.name(e), EMPTY);
        x.no(x.name(open), OPEN);
        for (int far : Run.FAR) {
            x.no(x.name(far), BAD);
        }
    }

    @Sentence(of = "Promise 49", says = "How many: 0 PICTURES, 1 MOVES, 2 names, 3 numbers of THE TAPE, 4 WORK.")
    static void counts() {
        Run x = new Run();
        int[] due = new int[5];
        int c = x.circles(1);
        due[0]++;
        counted(x, due);
        x.move(0, 0, 0, 0);
        x.move(0, 0, 0, 0);
        due[1] += 2;
        counted(x, due);
        x.book(c, 5);
        due[2]++;
        due[4]++;
        counted(x, due);
        x.type(-2);
        x.type(-2);
        x.type(-2);
        due[3] += 3;
        counted(x, due);
        x.bracket(x.kinks(14));
        due[0]++;
        due[4] += 16384;
        counted(x, due);
        // all that is refused leaves them
        x.move(6, 0, 0, 0);
        x.book(c, 5);
        x.book(c, 0);
        x.twin(99);
        x.ofGauss();
        x.bracket(99);
        counted(x, due);
    }

    private static void counted(Run x, int[] due) {
        for (int what = 0; what < 5; what++) {
            x.is(x.count(what), due[what]);
        }
    }

    @Sentence(of = "Promise 49", says = "BAD.")
    static void countBad() {
        Run x = new Run();
        x.is(x.count(-1), BAD);
        x.is(x.count(0), 0);
        x.is(x.count(4), 0);
        x.is(x.count(5), BAD);
        for (int far : Run.FAR) {
            x.is(x.count(far), BAD);
        }
        x.hold(x.status() == 0, "count() leaves status()");
    }

    @Sentence(of = "Promise 50", says = "How often a FINDING (1 .. 9) was answered, by any call.")
    static void findingsByAnyCall() {
        Run x = new Run();
        int p = x.kinks(15);
        x.loose(p, 9);
        int e = x.picture();
        int open = x.openOne();
        x.row(open, 0, -1);
        int smooth = x.move(Run.SMOOTH, 0, 1, 0);
        int[] often = new int[10];
        for (int round = 0; round < 2; round++) {
            x.end(open, 0, 0);
            often[1]++;
            told(x, often);
            x.sign(p, 15);
            often[2]++;
            told(x, often);
            x.gauss(open);
            often[3]++;
            told(x, often);
            x.undoes(p, smooth);
            often[4]++;
            told(x, often);
            x.does(e, smooth);
            often[5]++;
            told(x, often);
            x.determinant(e);
            often[6]++;
            told(x, often);
            x.name(p);
            often[7]++;
            told(x, often);
            x.may(p, smooth);
            often[8]++;
            told(x, often);
            // BAD and FULL are no FINDINGS, nor are NONE and numbers below 0
            x.open(99);
            x.way(0);
            x.tells(smooth, 4);
            x.told(p, 5);
            told(x, often);
        }
    }

    private static void told(Run x, int[] often) {
        for (int finding = 1; finding <= 9; finding++) {
            x.is(x.findings(finding), often[finding]);
        }
    }

    @Sentence(of = "Promise 50", says = "BAD.")
    static void findingsBad() {
        Run x = new Run();
        x.is(x.findings(-1), BAD);
        x.is(x.findings(0), BAD);
        x.is(x.findings(1), 0);
        x.is(x.findings(9), 0);
        x.is(x.findings(10), BAD);
        x.is(x.findings(-11), BAD);
        for (int far : Run.FAR) {
            x.is(x.findings(far), BAD);
        }
        x.hold(x.status() == 0, "findings() leaves status()");
    }

    @Sentence(of = "Promise 51", says = "Why the latest call but status(), findings(), trace(), where(), parted(), count(), item(),"
            + " at(), way() was refused")
    static void statusOfTheLatest() {
        Run x = new Run();
        int p = x.kinks(1);
        x.no(x.undo(p), NOT);
        for (int k = -1; k < 2; k++) {
            x.status();
            x.hold(x.status() == NOT, "status() leaves it");
            x.findings(k);
            x.hold(x.status() == NOT, "findings() leaves it");
            x.trace(k);
            x.hold(x.status() == NOT, "trace() leaves it");
            x.where();
            x.hold(x.status() == NOT, "where() leaves it");
            x.parted();
            x.hold(x.status() == NOT, "parted() leaves it");
            x.count(k);
            x.hold(x.status() == NOT, "count() leaves it");
            x.item(k);
            x.hold(x.status() == NOT, "item() leaves it");
            x.at(k);
            x.hold(x.status() == NOT, "at() leaves it");
            x.way(k);
            x.hold(x.status() == NOT, "way() leaves it");
        }
        for (ToLongFunction<Run> call : grantedCalls()) {
            x.no(x.open(99), BAD);
            call.applyAsLong(x);
            x.hold(x.status() == 0, "behind a call that is not refused status() is 0");
        }
    }

    /** Each call but the nine, and each of its answers that is no refusal, on one PICTURE of one kink. */
    private static List<ToLongFunction<Run>> grantedCalls() {
        List<ToLongFunction<Run>> all = new ArrayList<>();
        for (int k = 0; k < 6; k++) {
            int what = k;
            all.add(x -> x.told(0, what));
            all.add(x -> x.move(what, 0, 0, 0));
            all.add(x -> x.tells(what, 4));
            all.add(x -> x.tells(what, 5));
            all.add(x -> x.tells(0, what));
        }
        all.add(x -> x.picture());
        all.add(x -> x.twin(0));
        all.add(x -> x.join(0, 0, 0, 0));
        all.add(x -> x.loose(1, 1));
        all.add(x -> x.crossing(0, 5, 6, 6, 5));
        all.add(x -> x.row(0, 0, 4));
        all.add(x -> x.put(0, 0, 0, 0));
        all.add(x -> x.end(0, 0, 0));
        all.add(x -> x.copy(0, 0, 0, 0, 0, 0, 4));
        all.add(x -> x.open(0));
        all.add(x -> x.mirror(2));
        all.add(x -> x.turn(2));
        all.add(x -> x.undo(2));
        all.add(x -> x.sign(2, 0));
        all.add(x -> x.pieceOf(2, 0));
        all.add(x -> x.linking(0, 0, 1));
        all.add(x -> x.colours(0, 3));
        all.add(x -> x.bracket(0));
        all.add(x -> x.polynomial(0));
        all.add(x -> x.power(0));
        all.add(x -> x.power(1));
        all.add(x -> x.determinant(0));
        all.add(x -> x.gauss(2));
        all.add(x -> x.ofGauss());
        all.add(x -> x.type(5));
        all.add(x -> x.clear());
        all.add(x -> x.as(1, 0));
        all.add(x -> x.may(2, 0));
        all.add(x -> x.does(2, 0));
        all.add(x -> x.undoes(2, 5));
        all.add(x -> x.like(0, 0));
        all.add(x -> x.like(0, 1));
        all.add(x -> x.like(0, 3));
        all.add(x -> x.search(0, 1));
        all.add(x -> x.goOn(1));
        for (int k = 0; k < 4; k++) {
            int what = k;
            all.add(x -> x.searched(what));
        }
        all.add(x -> x.fewer());
        all.add(x -> x.same(1, 2, 0));
        all.add(x -> x.same(1, 1, 0));
        all.add(x -> x.same(0, 1, 0));
        all.add(x -> x.check(1));
        all.add(x -> x.book(1, 5));
        all.add(x -> x.name(1));
        all.add(x -> x.name(0));
        all.add(x -> x.digest());
        return all;
    }

    @Sentence(of = "Promise 51", says = "(BAD, FULL, -10 less a FINDING); 0: it was not.")
    static void statusNumbers() {
        Run x = new Run();
        x.hold(x.status() == 0, "no call was refused");
        int p = x.kinks(15);
        int e = x.picture();
        int open = x.openOne();
        x.row(open, 0, -1);
        int m = x.move(Run.SMOOTH, 0, 1, 0);
        x.loose(p, 9);
        x.no(x.end(99, 0, 0), -2);
        x.no(x.end(open, 0, 0), -11);
        x.no(x.end(open, 1, 0), -12);
        x.no(x.turn(open), -13);
        x.no(x.undoes(p, m), -14);
        x.no(x.does(e, m), -15);
        x.no(x.bracket(e), -16);
        x.no(x.bracket(p), -17);
        x.no(x.does(p, m), -18);
        x.fillPictures(24);
        x.no(x.picture(), -3);
        x.is(x.told(p, 0), 15);
        // answers below 0 that are no refusals
        x.is(x.told(p, 5), -15);
        x.is(x.sign(p, 0), -1);
        x.is(x.tells(m, 4), -1);
        x.is(x.tells(x.move(0, -2, -3, -11), 1), -2);
        x.is(x.tells(1, 3), -11);
        Run y = new Run();
        y.spendAllBut(0);
        y.no(y.bracket(y.circles(1)), -19);
        int k = y.kinks(1);
        y.is(y.same(y.circles(2), y.parts(2), 0), -1);
        y.is(y.sign(k, 0), -1);
    }

    private static long mixed(long... numbers) {
        long h = 17;
        for (long n : numbers) {
            h = 31 * h + n;
        }
        return h;
    }

    @Sentence(of = "Promise 52", says = "h = 17; h becomes 31 h and n, as longs that wrap, for n, one after the other:")
    static void digestWraps() {
        Run x = new Run();
        x.is(x.digest(), 17);
        x.picture();
        x.is(x.digest(), 17 * 31);
        long[] numbers = new long[24];
        for (int p = 1; p < 24; p++) {
            x.picture();
            x.loose(p, p % 10);
            numbers[p] = p % 10;
            x.is(x.digest(), mixed(java.util.Arrays.copyOf(numbers, p + 1)));
        }
    }

    @Sentence(of = "Promise 52", says = "of each PICTURE its LOOSE circles, then of each CROSSING how many ENDS (-1: none), then its"
            + " ARCS.")
    static void digestOfRows() {
        Run x = new Run();
        int p = x.rows(new int[] {99, -1, 0, 5}, new int[] {1, 2, 3, 4}, new int[] {6, 7, 8, 9}, new int[] {6, 7, 8, 9});
        x.loose(p, 9);
        x.is(x.digest(), mixed(9, 4, 99, -1, 0, 5, 4, 1, 2, 3, 4, 4, 6, 7, 8, 9, 4, 6, 7, 8, 9));
        x.row(p, 1, -1);
        x.row(p, 2, 0);
        x.row(p, 3, 3);
        x.is(x.digest(), mixed(9, 4, 99, -1, 0, 5, -1, 0, 3, 6, 7, 8));
        x.kinks(1);
        x.is(x.digest(), mixed(9, 4, 99, -1, 0, 5, -1, 0, 3, 6, 7, 8, 0, 4, 0, 1, 1, 0));
        // nothing else counts
        x.type(5);
        x.move(0, 0, 0, 0);
        x.bracket(1);
        x.book(1, 5);
        x.search(1, 5);
        x.is(x.digest(), mixed(9, 4, 99, -1, 0, 5, -1, 0, 3, 6, 7, 8, 0, 4, 0, 1, 1, 0));
    }
}
