/** Promises 49 to 52: what is told. */
public final class ToldTest {
    private static final Due due = new Due();
    private static final int NONE = House.NONE, BAD = House.BAD, FULL = House.FULL;

    private static void promise49Count() {
        KnotTable x = new KnotTable();
        x.picture();
        int t = House.knot(x, House.TREFOIL);
        x.move(0, 0, 0, 0);
        x.move(1, 0, 0, 0);
        x.move(2, 0, 0, 0);
        x.book(t, 5);
        int[] counts = {2, 3, 1, 8, 8};
        for (int what = 0; what < 5; what++) {
            due.is("count(" + what + ")", x.count(what), counts[what]);
        }
        due.is("count(5)", x.count(5), BAD);
        due.is("count(-1)", x.count(-1), BAD);
        due.is("count(far)", x.count(Integer.MIN_VALUE), BAD);
        due.is("count() leaves status()", x.status(), 0);
    }

    private static void promise50Findings() {
        KnotTable x = new KnotTable();
        int p = x.picture();
        x.crossing(p, 0, 1, 2, 3);
        x.crossing(p, 0, 1, 2, 3);
        x.row(p, 1, -1);
        int e = x.picture();
        int smooth = x.move(4, 0, 0, 0);
        int twist = x.move(0, -1, 0, 0);
        int big = House.kinks(x, 40);
        x.loose(big, 1);
        int circle = House.knot(x, House.CIRCLE);
        int[] often = new int[10];
        for (int k = 0; k < 3; k++) {
            x.end(p, 1, 0);
            x.put(p, 1, 0, 0);
            x.copy(p, 1, 0, p, 0, 0, 1);
            often[1] += 3;
            x.end(p, 2, 0);
            x.row(p, 9, 1);
            x.copy(p, 0, 0, p, 0, 3, 4);
            x.sign(circle, 0);
            x.pieceOf(circle, 0);
            often[2] += 5;
            x.told(p, 2);
            x.bracket(p);
            x.name(p);
            x.gauss(p);
            often[3] += 4;
            x.undoes(e, smooth);
            x.as(smooth, 5);
            often[4] += 2;
            x.does(e, smooth);
            x.may(e, twist);
            x.undo(e);
            x.power(0);
            x.goOn(1);
            x.fewer();
            often[5] += 6;
            x.determinant(e);
            x.book(e, 4);
            often[6] += 2;
            x.polynomial(big);
            x.search(big, 3);
            x.same(big, e, 3);
            often[7] += 3;
            x.may(big, twist);
            x.join(big, 0, big, 0);
            often[8] += 2;
            x.open(99);
            x.status();
        }
        for (int finding = 1; finding < 10; finding++) {
            due.is("findings(" + finding + ")", x.findings(finding), often[finding]);
        }
        due.is("findings(0)", x.findings(0), BAD);
        due.is("findings(10)", x.findings(10), BAD);
        due.is("findings(-1)", x.findings(-1), BAD);
        due.is("findings(far)", x.findings(Integer.MAX_VALUE), BAD);
    }

    private static void promise51Status() {
        KnotTable x = new KnotTable();
        x.open(3);
        due.is("status", x.status(), BAD);
        due.is("status stays", x.status(), BAD);
        x.findings(0);
        x.findings(1);
        x.trace(0);
        x.where();
        x.parted();
        x.count(0);
        x.count(9);
        x.item(0);
        x.at(0);
        x.way(0);
        due.is("these nine leave it", x.status(), BAD);
        x.digest();
        due.is("digest() does not", x.status(), 0);
        x.goOn(1);
        due.is("NOT", x.status(), -15);
        x.item(77);
        x.count(77);
        x.findings(77);
        due.is("their BAD is not told", x.status(), -15);
        x.clear();
        due.is("clear() does not leave it", x.status(), 0);
        x.goOn(1);
        x.type(-3);
        due.is("type() does not leave it", x.status(), 0);
        x.searched(1);
        x.picture();
        due.is("picture() does not leave it", x.status(), 0);
        int m = x.move(4, -15, -2, 0);
        x.tells(m, 1);
        due.is("numbers below 0 that were asked for", x.status(), 0);
        x.tells(m, 4);
        due.is("crossings less", x.status(), 0);
        int t = House.knot(x, House.TREFOIL);
        x.mirror(t);
        x.told(t, 5);
        due.is("a writhe below 0", x.status(), 0);
        x.sign(t, 0);
        due.is("a sign below 0", x.status(), 0);
        x.polynomial(t);
        x.goOn(1);
        x.power(0);
        due.is("a power", x.status(), 0);
        while (x.picture() >= 0) {
            x.status();
        }
        due.is("FULL", x.status(), FULL);
        for (int k = 0; k < 130; k++) {
            x.type(0);
        }
        due.is("FULL", x.status(), FULL);
    }

    private static long mixed(long h, long... numbers) {
        for (long n : numbers) {
            h = 31 * h + n;
        }
        return h;
    }

    private static void promise52Digest() {
        KnotTable x = new KnotTable();
        due.is("nothing", x.digest(), 17);
        int p = x.picture();
        due.is("one picture", x.digest(), 17 * 31);
        x.loose(p, 3);
        due.is("circles", x.digest(), 17 * 31 + 3);
        x.crossing(p, 99, -1, 5, 0);
        x.crossing(p, 1, 2, 3, 4);
        x.crossing(p, 6, 7, 8, 9);
        x.crossing(p, 6, 7, 8, 9);
        x.row(p, 1, -1);
        x.row(p, 2, 2);
        x.row(p, 3, 0);
        due.is("rows", x.digest(), mixed(17, 3, 4, 99, -1, 5, 0, -1, 2, 6, 7, 0));
        int q = x.twin(p);
        x.loose(q, 9);
        due.is("two", x.digest(), mixed(17, 3, 4, 99, -1, 5, 0, -1, 2, 6, 7, 0, 9, 4, 99, -1, 5, 0, -1, 2, 6, 7, 0));
        x.type(5);
        x.move(0, 0, 0, 0);
        due.is("other things do not count",
                x.digest(), mixed(17, 3, 4, 99, -1, 5, 0, -1, 2, 6, 7, 0, 9, 4, 99, -1, 5, 0, -1, 2, 6, 7, 0));
        due.is("trace", x.trace(0), NONE);
    }

    public static void main(String[] args) {
        promise49Count();
        promise50Findings();
        promise51Status();
        promise52Digest();
        due.end("ToldTest");
    }
}
