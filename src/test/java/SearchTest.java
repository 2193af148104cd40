/** Promises 38 to 48: likeness, search, and the book. */
public final class SearchTest {
    private static final Due due = new Due();
    private static final int NONE = House.NONE, BAD = House.BAD, FULL = House.FULL, OPEN = House.OPEN;
    private static final int NOT = House.NOT, EMPTY = House.EMPTY, GREAT = House.GREAT;

    private static int openOne(KnotTable x) {
        int p = x.picture();
        x.crossing(p, 0, 1, 2, 3);
        return p;
    }

    private static void promise38Like() {
        KnotTable x = new KnotTable();
        int t = House.knot(x, House.TREFOIL);
        int r = x.picture();
        // rows 2 0 3 5, 0 4 1 3, 4 2 5 1 in another order, two of them turned, each arc a as 99 - a
        x.crossing(r, 95, 97, 94, 98);
        x.crossing(r, 96, 94, 97, 99);
        x.crossing(r, 98, 96, 99, 95);
        due.is("renumbered", x.like(t, r), 1);
        due.is("renumbered", x.like(r, t), 1);
        due.is("itself", x.like(t, t), 1);
        x.loose(r, 1);
        due.is("a circle more", x.like(t, r), 0);
        x.loose(t, 1);
        due.is("as many circles", x.like(t, r), 1);
        x.mirror(r);
        due.is("mirrored", x.like(t, r), 0);
        x.mirror(r);
        due.is("twice", x.like(t, r), 1);
        x.turn(r);
        due.is("a trefoil from behind", x.like(t, r), 1);
        x.does(r, x.move(5, 0, 0, 0));
        due.is("changed", x.like(t, r), 0);
        int e = x.picture();
        due.is("nothing", x.like(e, x.picture()), 1);
        due.is("nothing and something", x.like(e, t), 0);
        due.refused(x, "no picture", x.like(t, 99), BAD);
        due.refused(x, "no picture", x.like(-1, t), BAD);
        int o = openOne(x);
        due.refused(x, "open", x.like(t, o), OPEN);
        due.refused(x, "open", x.like(o, t), OPEN);
        due.refused(x, "bad ahead of open", x.like(o, 99), BAD);
    }

    private static void promise38LikeOfParts() {
        KnotTable x = new KnotTable();
        int p = x.picture();
        int q = x.picture();
        int r = x.picture();
        int[][] kinks = {{0, 0, 1, 1}, {2, 3, 3, 2}, {4, 4, 5, 5}};
        for (int k = 0; k < 3; k++) {
            x.crossing(p, kinks[k][0], kinks[k][1], kinks[k][2], kinks[k][3]);
            int[] other = kinks[2 - k];
            x.crossing(q, other[2], other[3], other[0], other[1]);
            int[] unlike = kinks[k == 2 ? 1 : k];
            int shift = k == 2 ? 10 : 0;
            x.crossing(r, unlike[0] + shift, unlike[1] + shift, unlike[2] + shift, unlike[3] + shift);
        }
        due.is("parts in another order", x.like(p, q), 1);
        due.is("two of the other kink", x.like(p, r), 0);
        due.is("and back", x.like(r, q), 0);
        int big = House.braid(x, 40);
        int turned = x.twin(big);
        for (int c = 0; c < 40; c += 3) {
            int a0 = x.end(turned, c, 0);
            int a1 = x.end(turned, c, 1);
            x.copy(turned, c, 2, turned, c, 0, 2);
            x.put(turned, c, 2, a0);
            x.put(turned, c, 3, a1);
        }
        due.is("40 crossings, rows turned by 2", x.like(big, turned), 1);
        x.does(turned, x.move(5, 39, 0, 0));
        due.is("one changed", x.like(big, turned), 0);
        x.mirror(big);
        due.is("40 mirrored", x.like(big, House.braid(x, 40)), 0);
    }

    private static void promise39Search() {
        KnotTable x = new KnotTable();
        int c = House.knot(x, House.CIRCLE);
        due.is("no steps to go", x.search(c, 0), 0);
        due.is("not ended: none were left", x.searched(0), 0);
        due.is("one state", x.searched(1), 1);
        due.is("no steps", x.search(c, 1), 0);
        due.is("ended", x.searched(0), 1);
        int k = House.kinks(x, 2);
        due.is("two kinks", x.search(k, 5000), 4);
        due.is("ended", x.searched(0), 1);
        due.is("states", x.searched(1), 3);
        due.is("fewest", x.searched(2), 0);
        due.is("its last step", x.search(k, 4), 4);
        due.is("behind it, it stops at once", x.searched(0), 0);
        due.refused(x, "n -1", x.search(k, -1), BAD);
        due.refused(x, "n 5001", x.search(k, 5001), BAD);
        due.refused(x, "no picture", x.search(99, 5), BAD);
        due.refused(x, "open", x.search(openOne(x), 5), OPEN);
        due.refused(x, "13 crossings", x.search(House.kinks(x, 13), 5), GREAT);
        due.is("the search is as it was", x.searched(3), 4);
        due.is("12 crossings", x.search(House.kinks(x, 12), 0), 0);
        due.is("another one is forgotten", x.searched(2), 12);
    }

    private static void promise40GoOn() {
        KnotTable x = new KnotTable();
        due.refused(x, "no search", x.goOn(5), NOT);
        due.refused(x, "bad ahead of not", x.goOn(5001), BAD);
        int k = House.kinks(x, 5);
        int all = x.search(k, 5000);
        int states = x.searched(1);
        due.holds("there is something to go", all > 8 && states > 5);
        x.search(k, 0);
        int gone = 0;
        for (int n = 0; gone < all; n = n % 3 + 1) {
            int now = x.goOn(n);
            due.is("goOn", now, Math.min(n, all - gone));
            gone += now;
            due.is("steps in all", x.searched(3), gone);
        }
        due.is("as many states", x.searched(1), states);
        x.goOn(0);
        due.is("goOn", x.goOn(1), 0);
        due.is("ended", x.searched(0), 1);
        due.is("goOn", x.goOn(5000), 0);
        due.is("goOn(0) behind the end", x.goOn(0), 0);
        due.is("ended", x.searched(0), 1);
        due.refused(x, "n -1", x.goOn(-1), BAD);
    }

    private static void statesStay() {
        KnotTable x = new KnotTable();
        int k = House.kinks(x, 5);
        int all = x.search(k, 5000);
        x.search(k, 2);
        x.put(k, 0, 0, -1);
        x.loose(k, 7);
        x.row(k, 3, -1);
        due.is("it goes on all the same", x.goOn(5000), all - 2);
        int f = x.fewer();
        due.is("circles", x.told(f, 1), 1);
        due.is("crossings", x.told(f, 0), 0);
    }

    private static void promise41Searched() {
        KnotTable x = new KnotTable();
        due.refused(x, "no search", x.searched(0), NOT);
        due.refused(x, "what = 4", x.searched(4), BAD);
        due.refused(x, "what = -1", x.searched(-1), BAD);
        int k = House.kinks(x, 2);
        x.search(k, 1);
        int[] told = {0, 2, 1, 1};
        for (int what = 0; what < 4; what++) {
            due.is("searched " + what, x.searched(what), told[what]);
        }
        due.refused(x, "what = 4", x.searched(4), BAD);
        int c = x.picture();
        x.loose(c, 9);
        x.crossing(c, 0, 1, 1, 0);
        due.is("ten circles may not come", x.search(c, 9), 0);
        due.is("ended", x.searched(0), 1);
        due.is("no step", x.searched(3), 0);
        due.is("one state", x.searched(1), 1);
    }

    private static void promise42Fewer() {
        KnotTable x = new KnotTable();
        due.refused(x, "no search", x.fewer(), NOT);
        int t = House.knot(x, House.TREFOIL);
        x.search(t, 100);
        int f = x.fewer();
        due.is("a new one", f, 1);
        due.holds("as it is", House.has(x, f, 0, 2, 0, 3, 5) && House.has(x, f, 2, 4, 2, 5, 1));
        due.is("no ways", x.way(0), NONE);
        x.does(t, x.move(0, 0, 1, 0));
        x.does(t, x.move(0, 5, 2, 0));
        x.search(t, 100);
        f = x.fewer();
        due.is("crossings", x.told(f, 0), 3);
        due.is("it has its arcs: " + House.row(x, f, 0), x.like(f, 1), 1);
        due.is("two ways", x.way(1) >= 0 && x.way(2) == NONE ? 1 : 0, 1);
        due.is("below", x.way(-1), NONE);
        due.is("ways are gone", x.check(t), 3);
        long digest = x.digest();
        due.refused(x, "undo of a new one", x.undo(f), NOT);
        due.is("digest", x.digest(), digest);
        while (x.count(0) < 24) {
            x.picture();
        }
        due.refused(x, "full", x.fewer(), FULL);
        KnotTable y = new KnotTable();
        while (y.count(0) < 24) {
            y.picture();
        }
        due.refused(y, "full ahead of not", y.fewer(), FULL);
    }

    private static void parts(KnotTable x, int p, int q, int by) {
        due.is("same", x.same(p, q, 0), 0);
        due.is("parted", x.parted(), by);
        due.is("same, the other way round", x.same(q, p, 0), 0);
        due.is("parted", x.parted(), by);
    }

    private static void promise43SameParts() {
        KnotTable x = new KnotTable();
        int c = House.knot(x, House.CIRCLE);
        int t = House.knot(x, House.TREFOIL);
        int m = x.twin(t);
        x.mirror(m);
        int h = House.knot(x, House.HOPF);
        int e = House.knot(x, House.FIGURE_EIGHT);
        int two = House.knot(x, -4);
        int seven = House.braid(x, 7);
        int eleven = House.braid(x, 11);
        int thirteen = House.braid(x, 13);
        int work = x.count(4);
        parts(x, t, h, 1);
        parts(x, c, two, 1);
        parts(x, t, c, 2);
        parts(x, h, two, 2);
        parts(x, e, c, 3);
        parts(x, e, t, 2);
        parts(x, seven, c, 4);
        parts(x, eleven, c, 5);
        due.is("no brackets", x.count(4), work);
        parts(x, t, m, 6);
        due.is("two brackets each time", x.count(4), work + 4 * 8);
        due.is("a circle and one of 13", x.same(c, thirteen, 9), 0);
        due.is("parted", x.parted(), 6);
        due.is("two brackets", x.count(4), work + 32 + 1 + 8192);
        int fourteen = x.twin(thirteen);
        x.does(fourteen, x.move(0, 0, 0, 0));
        due.is("a circle and one of 14", x.same(c, fourteen, 9), 0);
        due.is("parted", x.parted(), 6);
        due.refused(x, "no search began", x.searched(1), NOT);
        due.refused(x, "no result came", x.power(0), NOT);
        due.refused(x, "13 crossings", x.same(thirteen, c, 9), GREAT);
        due.refused(x, "great ahead of what parts", x.same(thirteen, two, 9), GREAT);
        due.refused(x, "n -1", x.same(c, c, -1), BAD);
        due.refused(x, "n 5001", x.same(c, c, 5001), BAD);
        due.refused(x, "no picture", x.same(c, 99, 1), BAD);
        due.refused(x, "no picture", x.same(-1, c, 1), BAD);
        int o = openOne(x);
        due.refused(x, "open", x.same(c, o, 1), OPEN);
        due.refused(x, "open", x.same(o, c, 1), OPEN);
        due.refused(x, "open ahead of great", x.same(thirteen, o, 1), OPEN);
        due.is("refusals leave parted()", x.parted(), 6);
    }

    private static void promise43SameFinds() {
        KnotTable x = new KnotTable();
        int c = House.knot(x, House.CIRCLE);
        int k = House.kinks(x, 3);
        due.is("itself, without a step", x.same(k, k, 0), 1);
        due.is("no ways", x.way(0), NONE);
        due.is("no steps", x.searched(3), 0);
        due.is("not ended", x.searched(0), 0);
        due.is("too few steps", x.same(k, c, 1), -1);
        due.is("that is no refusal", x.status(), 0);
        due.is("parted", x.parted(), 0);
        due.is("one step was gone", x.searched(3), 1);
        due.holds("it goes on", x.goOn(5000) > 5);
        due.is("found", x.same(k, c, 5000), 1);
        int steps = x.searched(3);
        int states = x.searched(1);
        due.is("it stopped there", x.searched(0), 0);
        due.is("with so many steps", x.same(k, c, steps), 1);
        due.is("not with fewer", x.same(k, c, steps - 1), -1);
        due.holds("the ways stay", x.way(0) >= 0 && x.way(2) >= 0 && x.way(3) == NONE);
        x.same(k, c, 5000);
        due.is("states", x.searched(1), states);
        x.goOn(5000);
        due.is("it goes on to the end", x.searched(0), 1);
        int g = x.check(k);
        due.is("ways lead to it", x.like(g, c), 1);
        due.is("a circle comes to no kink", x.same(c, k, 5000), -1);
        due.is("ended", x.searched(0), 1);
        due.is("the latest that was 1", x.way(0) >= 0 ? 1 : 0, 1);
        due.is("a search stays when a number parts", x.same(k, House.knot(x, House.TREFOIL), 9), 0);
        due.is("searched", x.searched(2), 0);
        due.is("parted", x.parted(), 2);
        x.same(k, c, 0);
        due.is("parted", x.parted(), 0);
    }

    private static void promise43SameOfLinksAndGreatOnes() {
        KnotTable x = new KnotTable();
        int u = House.knot(x, House.UNLINK);
        int two = House.knot(x, -4);
        int work = x.count(4);
        due.is("an unlink comes apart", x.same(u, two, 50), 1);
        due.is("no brackets for two pieces", x.count(4), work);
        int k = House.kinks(x, 3);
        int g = House.kinks(x, 15);
        due.is("q may be great", x.same(k, g, 50), -1);
        due.is("no brackets above 14", x.count(4), work);
        int t = House.knot(x, House.TREFOIL);
        int m = x.twin(t);
        x.mirror(m);
        for (int n = 0; n < 12; n++) {
            x.does(m, x.move(0, 0, n % 2, 0));
        }
        due.is("what only 6 would part", x.same(t, m, 50), -1);
        due.is("parted", x.parted(), 0);
        int n = x.twin(t);
        x.loose(t, 1);
        x.loose(n, 1);
        x.mirror(n);
        due.is("with a loose circle 6 is not looked at", x.same(t, n, 50), -1);
        due.is("no brackets", x.count(4), work);
        int e = x.picture();
        due.is("nothing is nothing", x.same(e, x.picture(), 0), 1);
        due.is("no brackets", x.count(4), work);
        int twelve = House.kinks(x, 12);
        due.is("one of 12 crossings is itself", x.same(twelve, x.twin(twelve), 0), 1);
        due.is("one of 13 is not found", x.same(twelve, House.kinks(x, 13), 9), -1);
    }

    private static void promise44Parted() {
        KnotTable x = new KnotTable();
        due.is("parted", x.parted(), 0);
        int c = House.knot(x, House.CIRCLE);
        x.same(c, x.picture(), 0);
        due.is("parted", x.parted(), 1);
        x.same(c, 99, 0);
        x.like(c, c);
        due.is("of the latest same()", x.parted(), 1);
        x.open(99);
        x.parted();
        due.is("it leaves status()", x.status(), BAD);
    }

    private static void promise45Way() {
        KnotTable x = new KnotTable();
        due.is("way(0)", x.way(0), NONE);
        due.is("way(-1)", x.way(-1), NONE);
        int k = House.kinks(x, 2);
        x.search(k, 100);
        due.is("a search tells none", x.way(0), NONE);
        x.fewer();
        // rows 0 1 1 2 and 2 3 3 0: END 1 is a kink; then 0 3 3 0, or its like, is left
        due.is("way(0)", x.way(0), 3);
        due.is("way(1)", x.way(1), 3);
        due.is("way(2)", x.way(2), NONE);
        due.is("way(far)", x.way(Integer.MAX_VALUE), NONE);
        x.search(House.kinks(x, 1), 0);
        due.is("they stay", x.way(1), 3);
        x.open(99);
        x.way(0);
        due.is("it leaves status()", x.status(), BAD);
    }

    private static void promise46Check() {
        KnotTable x = new KnotTable();
        int t = House.knot(x, House.TREFOIL);
        due.is("no ways", x.check(t), 1);
        due.is("a twin", x.like(0, 1), 1);
        int k = House.kinks(x, 2);
        x.search(k, 100);
        x.fewer();
        due.refused(x, "they cannot be gone", x.check(t), NOT);
        int one = House.kinks(x, 1);
        due.refused(x, "not all of them", x.check(one), NOT);
        due.refused(x, "no picture", x.check(99), BAD);
        due.refused(x, "open", x.check(openOne(x)), OPEN);
        int full = x.twin(k);
        x.loose(full, 9);
        due.refused(x, "ten circles", x.check(full), NOT);
        long before = x.digest();
        int three = House.kinks(x, 3);
        int g = x.check(three);
        due.is("of another one", x.told(g, 0), 1);
        due.is("that one stays", x.told(three, 0), 3);
        due.holds("two came", x.digest() != before && x.told(k, 0) == 2);
        while (x.count(0) < 24) {
            x.picture();
        }
        due.refused(x, "full", x.check(k), FULL);
        x.put(k, 0, 0, -1);
        due.refused(x, "full ahead of open", x.check(k), FULL);
        due.refused(x, "bad ahead of full", x.check(24), BAD);
    }

    private static void promise47Book() {
        KnotTable x = new KnotTable();
        int c = House.knot(x, House.CIRCLE);
        int t = House.knot(x, House.TREFOIL);
        due.is("book", x.book(c, 1000), 1);
        due.is("book", x.book(t, -2), 2);
        due.is("work", x.count(4), 9);
        due.refused(x, "the name is there", x.book(t, 1000), NOT);
        due.is("that costs nothing", x.count(4), 9);
        due.refused(x, "no result came", x.power(0), NOT);
        due.refused(x, "name 0", x.book(t, 0), BAD);
        due.refused(x, "no picture", x.book(99, 5), BAD);
        due.refused(x, "open", x.book(openOne(x), 5), OPEN);
        due.refused(x, "nothing", x.book(x.picture(), 5), EMPTY);
        due.refused(x, "11 crossings", x.book(House.kinks(x, 11), 5), GREAT);
        due.is("10 crossings", x.book(House.kinks(x, 10), Long.MIN_VALUE), 3);
        for (int k = 4; k <= 200; k++) {
            due.is("book", x.book(c, 5000L * k), k);
        }
        due.refused(x, "201 names", x.book(c, 7), FULL);
        due.refused(x, "full ahead of not", x.book(c, 1000), FULL);
        due.refused(x, "full ahead of open", x.book(2, 7), FULL);
        due.refused(x, "bad ahead of full", x.book(c, 0), BAD);
        due.is("count(2)", x.count(2), 200);
    }

    private static void promise48Name() {
        KnotTable x = new KnotTable();
        int c = House.knot(x, House.CIRCLE);
        int t = House.knot(x, House.TREFOIL);
        due.is("none", x.name(c), 0);
        due.is("it costs", x.count(4), 1);
        x.book(t, Long.MAX_VALUE);
        x.book(c, -2);
        x.book(t, 31);
        due.is("the first one told", x.name(t), Long.MAX_VALUE);
        due.is("another one", x.name(c), -2);
        due.is("that is no refusal", x.status(), 0);
        due.is("kinks are a circle", x.name(House.kinks(x, 7)), -2);
        due.is("a closed braid", x.name(House.braid(x, 3)), Long.MAX_VALUE);
        x.mirror(t);
        due.is("the mirror's has none", x.name(t), 0);
        due.is("no result came", x.at(0), 0);
        due.refused(x, "no picture", x.name(99), BAD);
        due.refused(x, "open", x.name(openOne(x)), OPEN);
        due.refused(x, "nothing", x.name(x.picture()), EMPTY);
        due.refused(x, "11 crossings", x.name(House.kinks(x, 11)), GREAT);
    }

    public static void main(String[] args) {
        promise38Like();
        promise38LikeOfParts();
        promise39Search();
        promise40GoOn();
        statesStay();
        promise41Searched();
        promise42Fewer();
        promise43SameParts();
        promise43SameFinds();
        promise43SameOfLinksAndGreatOnes();
        promise44Parted();
        promise45Way();
        promise46Check();
        promise47Book();
        promise48Name();
        due.end("SearchTest");
    }
}
