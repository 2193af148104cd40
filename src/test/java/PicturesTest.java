/** Promises 1 to 16: pictures. */
public final class PicturesTest {
    private static final Due due = new Due();
    private static final int NONE = House.NONE, BAD = House.BAD, FULL = House.FULL, LACKING = House.LACKING;
    private static final int BEYOND = House.BEYOND, OPEN = House.OPEN, NOT = House.NOT, MANY = House.MANY;

    private static void promise1NewObject() {
        KnotTable x = new KnotTable();
        for (int what = 0; what < 5; what++) {
            due.is("count(" + what + ")", x.count(what), 0);
        }
        for (int finding = 1; finding < 10; finding++) {
            due.is("findings(" + finding + ")", x.findings(finding), 0);
        }
        due.is("status()", x.status(), 0);
        due.is("where()", x.where(), NONE);
        due.is("parted()", x.parted(), 0);
        due.is("way(0)", x.way(0), NONE);
        due.is("trace(0)", x.trace(0), NONE);
        due.is("at(0)", x.at(0), 0);
        due.is("digest()", x.digest(), 17);
        due.refused(x, "power(0)", x.power(0), NOT);
        due.refused(x, "searched(0)", x.searched(0), NOT);
        due.refused(x, "open(0)", x.open(0), BAD);
        due.refused(x, "tells(0, 0)", x.tells(0, 0), BAD);
        KnotTable y = new KnotTable();
        y.picture();
        y.type(5);
        y.move(0, 1, 2, 3);
        due.is("another house's count(0)", x.count(0), 0);
        due.is("another house's count(1)", x.count(1), 0);
        due.is("another house's count(3)", x.count(3), 0);
    }

    private static void promise2Picture() {
        KnotTable x = new KnotTable();
        for (int p = 0; p < 24; p++) {
            due.is("picture()", x.picture(), p);
            due.is("told(p, 0)", x.told(p, 0), 0);
            due.is("told(p, 1)", x.told(p, 1), 0);
            due.is("open(p)", x.open(p), 0);
        }
        long before = x.digest();
        due.refused(x, "picture()", x.picture(), FULL);
        due.is("count(0)", x.count(0), 24);
        due.is("digest()", x.digest(), before);
    }

    private static void promise3Crossing() {
        KnotTable x = new KnotTable();
        due.refused(x, "crossing() of none", x.crossing(0, 1, 2, 3, 4), BAD);
        int p = x.picture();
        due.is("crossing", x.crossing(p, -1, 99, 0, 5), 0);
        due.is("crossing", x.crossing(p, 7, 7, 7, 7), 1);
        due.holds("its arcs", House.has(x, p, 0, -1, 99, 0, 5) && House.has(x, p, 1, 7, 7, 7, 7));
        long before = x.digest();
        int[] wrong = {-2, 100, Integer.MAX_VALUE, Integer.MIN_VALUE};
        for (int arc : wrong) {
            due.refused(x, "crossing a " + arc, x.crossing(p, arc, 0, 0, 0), BAD);
            due.refused(x, "crossing b " + arc, x.crossing(p, 0, arc, 0, 0), BAD);
            due.refused(x, "crossing c " + arc, x.crossing(p, 0, 0, arc, 0), BAD);
            due.refused(x, "crossing d " + arc, x.crossing(p, 0, 0, 0, arc), BAD);
        }
        due.refused(x, "crossing(-1)", x.crossing(-1, 0, 0, 0, 0), BAD);
        due.refused(x, "crossing(1)", x.crossing(1, 0, 0, 0, 0), BAD);
        due.is("digest()", x.digest(), before);
        for (int c = 2; c < 40; c++) {
            due.is("crossing", x.crossing(p, 0, 1, 2, 3), c);
        }
        due.is("status()", x.status(), 0);
        before = x.digest();
        due.refused(x, "crossing 41", x.crossing(p, 0, 0, 0, 0), FULL);
        due.refused(x, "crossing 41, bad", x.crossing(p, 0, 0, 0, 100), BAD);
        due.is("told(p, 0)", x.told(p, 0), 40);
        due.is("digest()", x.digest(), before);
    }

    private static void promise4Row() {
        KnotTable x = new KnotTable();
        int p = x.picture();
        x.crossing(p, 4, 5, 6, 7);
        due.is("row 4", x.row(p, 0, 4), 1);
        due.holds("all stay", House.has(x, p, 0, 4, 5, 6, 7));
        due.is("row 2", x.row(p, 0, 2), 1);
        due.is("end 1", x.end(p, 0, 1), 5);
        due.is("end 2", x.end(p, 0, 2), BEYOND);
        due.is("row 4", x.row(p, 0, 4), 1);
        due.holds("two are new", House.has(x, p, 0, 4, 5, -1, -1));
        due.is("row 0", x.row(p, 0, 0), 1);
        due.is("end 0", x.end(p, 0, 0), BEYOND);
        due.is("row -1", x.row(p, 0, -1), 1);
        due.is("end 0", x.end(p, 0, 0), LACKING);
        due.is("row 3", x.row(p, 0, 3), 1);
        due.is("end 2", x.end(p, 0, 2), -1);
        due.is("end 3", x.end(p, 0, 3), BEYOND);
        long before = x.digest();
        due.refused(x, "row 5", x.row(p, 0, 5), BAD);
        due.refused(x, "row -2", x.row(p, 0, -2), BAD);
        due.refused(x, "row -2 beyond", x.row(p, 9, -2), BAD);
        due.refused(x, "row of no picture", x.row(1, 0, 2), BAD);
        due.refused(x, "row beyond", x.row(p, 1, 2), BEYOND);
        due.refused(x, "row below", x.row(p, -1, 2), BEYOND);
        due.is("digest()", x.digest(), before);
    }

    private static void promise5End() {
        KnotTable x = new KnotTable();
        int p = x.picture();
        x.crossing(p, 10, 11, 12, -1);
        for (int i = 0; i < 3; i++) {
            due.is("end", x.end(p, 0, i), 10 + i);
        }
        due.is("end that is missing", x.end(p, 0, 3), -1);
        due.is("that is no refusal", x.status(), 0);
        due.refused(x, "end 4", x.end(p, 0, 4), BEYOND);
        due.refused(x, "end -1", x.end(p, 0, -1), BEYOND);
        due.refused(x, "end of crossing 1", x.end(p, 1, 0), BEYOND);
        due.refused(x, "end of crossing -1", x.end(p, -1, 0), BEYOND);
        due.refused(x, "end of picture 1", x.end(1, 0, 0), BAD);
        due.refused(x, "end of picture -1", x.end(-1, 7, 7), BAD);
        x.row(p, 0, -1);
        due.refused(x, "end of none", x.end(p, 0, 9), LACKING);
    }

    private static void promise6Put() {
        KnotTable x = new KnotTable();
        int p = x.picture();
        x.crossing(p, 0, 1, 2, 3);
        due.is("put", x.put(p, 0, 2, 99), 1);
        due.is("put", x.put(p, 0, 3, -1), 1);
        due.holds("what is put", House.has(x, p, 0, 0, 1, 99, -1));
        long before = x.digest();
        due.refused(x, "put 100", x.put(p, 0, 0, 100), BAD);
        due.refused(x, "put -2", x.put(p, 5, 0, -2), BAD);
        due.refused(x, "put beyond", x.put(p, 1, 0, 1), BEYOND);
        due.refused(x, "put below", x.put(p, -1, 0, 1), BEYOND);
        due.refused(x, "put end 4", x.put(p, 0, 4, 1), BEYOND);
        due.refused(x, "put end -1", x.put(p, 0, -1, 1), BEYOND);
        due.refused(x, "put of no picture", x.put(3, 0, 0, 1), BAD);
        due.is("digest()", x.digest(), before);
        x.row(p, 0, -1);
        due.refused(x, "put into none", x.put(p, 0, 0, 1), LACKING);
    }

    private static void promise7Copy() {
        KnotTable x = new KnotTable();
        int p = x.picture();
        int q = x.picture();
        x.crossing(p, 1, 2, 3, 4);
        x.crossing(q, 5, 6, 7, 8);
        x.crossing(q, 9, 9, 9, 9);
        due.is("copy 2", x.copy(p, 0, 1, q, 0, 2, 2), 1);
        due.holds("what came", House.has(x, q, 0, 5, 6, 2, 3));
        due.is("copy forward in one row", x.copy(p, 0, 0, p, 0, 1, 3), 1);
        due.holds("as if taken ahead", House.has(x, p, 0, 1, 1, 2, 3));
        due.is("copy back in one row", x.copy(p, 0, 1, p, 0, 0, 3), 1);
        due.holds("as if taken ahead, too", House.has(x, p, 0, 1, 2, 3, 3));
        due.is("copy none at the end", x.copy(p, 0, 4, q, 0, 4, 0), 1);
        long before = x.digest();
        due.refused(x, "none from behind", x.copy(p, 0, 5, q, 0, 0, 0), BEYOND);
        due.refused(x, "none to behind", x.copy(p, 0, 0, q, 0, 5, 0), BEYOND);
        due.refused(x, "too many", x.copy(p, 0, 2, q, 0, 0, 3), BEYOND);
        due.refused(x, "too many there", x.copy(p, 0, 0, q, 0, 3, 2), BEYOND);
        due.refused(x, "from -1", x.copy(p, 0, -1, q, 0, 0, 1), BEYOND);
        due.refused(x, "to -1", x.copy(p, 0, 0, q, 0, -1, 1), BEYOND);
        due.refused(x, "n -1", x.copy(p, 0, 1, q, 0, 1, -1), BEYOND);
        due.refused(x, "what wraps", x.copy(p, 0, Integer.MAX_VALUE, q, 0, 0, 1), BEYOND);
        due.refused(x, "what wraps, too", x.copy(p, 0, 1, q, 0, Integer.MAX_VALUE, Integer.MAX_VALUE), BEYOND);
        due.refused(x, "crossing", x.copy(p, 1, 0, q, 0, 0, 1), BEYOND);
        due.refused(x, "the other crossing", x.copy(p, 0, 0, q, 2, 0, 1), BEYOND);
        due.refused(x, "no picture", x.copy(2, 0, 0, q, 0, 0, 1), BAD);
        due.refused(x, "no other picture", x.copy(p, 9, 0, -1, 0, 0, 1), BAD);
        due.is("digest()", x.digest(), before);
        x.row(q, 1, -1);
        due.refused(x, "to none", x.copy(p, 0, 0, q, 1, 9, 1), LACKING);
        due.refused(x, "from none", x.copy(q, 1, 9, p, 0, 0, 1), LACKING);
        due.refused(x, "from none, beyond", x.copy(q, 1, 9, p, 1, 0, 1), BEYOND);
        x.row(q, 1, 0);
        due.is("none from a row of none", x.copy(q, 1, 0, p, 0, 2, 0), 1);
        due.is("none to a row of none", x.copy(p, 0, 2, q, 1, 0, 0), 1);
        due.refused(x, "one from a row of none", x.copy(q, 1, 0, p, 0, 0, 1), BEYOND);
        due.refused(x, "one to a row of none", x.copy(p, 0, 0, q, 1, 0, 1), BEYOND);
        x.row(q, 1, 2);
        due.refused(x, "all or none", x.copy(p, 0, 0, q, 1, 0, 3), BEYOND);
        due.is("end", x.end(q, 1, 0), -1);
    }

    private static void promise8Loose() {
        KnotTable x = new KnotTable();
        int p = x.picture();
        due.is("loose 9", x.loose(p, 9), 0);
        due.is("loose 3", x.loose(p, 3), 9);
        due.refused(x, "loose 10", x.loose(p, 10), BAD);
        due.refused(x, "loose -1", x.loose(p, -1), BAD);
        due.refused(x, "loose of none", x.loose(1, 1), BAD);
        due.is("told(p, 1)", x.told(p, 1), 3);
        due.is("loose 0", x.loose(p, 0), 3);
    }

    private static void promise9Open() {
        KnotTable x = new KnotTable();
        int p = x.picture();
        x.loose(p, 2);
        due.is("circles alone", x.open(p), 0);
        x.crossing(p, 0, 1, 1, 0);
        due.is("one kink", x.open(p), 0);
        x.crossing(p, 2, 2, 3, 3);
        due.is("two parts", x.open(p), 0);
        x.crossing(p, 4, 5, 4, 5);
        due.is("not flat", x.open(p), 4);
        x.put(p, 2, 3, 0);
        due.is("an arc at three ends", x.open(p), 3);
        x.put(p, 0, 0, -1);
        due.is("missing is told ahead", x.open(p), 2);
        x.row(p, 1, 3);
        due.is("short is told ahead", x.open(p), 1);
        due.refused(x, "open of none", x.open(1), BAD);
        due.refused(x, "open(-1)", x.open(-1), BAD);
        KnotTable y = new KnotTable();
        int q = y.picture();
        y.crossing(q, 0, 1, 2, 3);
        y.crossing(q, 0, 1, 2, 3);
        due.is("two crossings the wrong way round", y.open(q), 4);
        y.crossing(q, 7, 7, 7, 7);
        due.is("an arc at four ends", y.open(q), 3);
    }

    private static void promise10Where() {
        KnotTable x = new KnotTable();
        int p = x.picture();
        x.crossing(p, 0, 1, 1, 0);
        x.crossing(p, 2, 2, 3, 3);
        x.crossing(p, 4, 5, 4, 5);
        x.open(p);
        due.is("where of 4", x.where(), NONE);
        x.put(p, 2, 3, 1);
        x.open(p);
        due.is("where of 3: any end of the arc", x.where(), 0);
        x.put(p, 2, 3, 3);
        x.open(p);
        due.is("where of 3, at crossing 1 and 2", x.where(), 1);
        int first = x.picture();
        x.crossing(first, 7, 1, 1, 2);
        x.crossing(first, 2, 3, 3, 8);
        x.open(first);
        due.is("where of 3, at END 0 alone", x.where(), 0);
        x.put(p, 1, 3, -1);
        x.put(p, 2, 0, -1);
        x.open(p);
        due.is("where of 2", x.where(), 1);
        x.row(p, 2, -1);
        due.is("where is of the latest open()", x.where(), 1);
        x.open(p);
        due.is("where of 1", x.where(), 2);
        x.open(77);
        due.is("where behind BAD", x.where(), 2);
        x.told(p, 3);
        int q = x.picture();
        x.told(q, 3);
        due.is("where behind other calls", x.where(), 2);
        x.open(q);
        due.is("where of 0", x.where(), NONE);
    }

    private static void promise11Told() {
        KnotTable x = new KnotTable();
        int t = House.knot(x, House.TREFOIL);
        int[] ofTrefoil = {3, 0, 1, 5, 1, 3};
        int h = House.knot(x, 1, 7, -1, 3, 5, -1, -4);
        int[] ofHopf = {2, 2, 4, 4, 1, -2};
        int k = House.braid(x, 1);
        x.crossing(k, 4, 5, 5, 4);
        int[] ofKinks = {2, 0, 2, 6, 2, 0};
        int e = x.picture();
        int[] ofNothing = {0, 0, 0, 0, 0, 0};
        for (int what = 0; what < 6; what++) {
            due.is("trefoil " + what, x.told(t, what), ofTrefoil[what]);
            due.is("hopf " + what, x.told(h, what), ofHopf[what]);
            due.is("kinks " + what, x.told(k, what), ofKinks[what]);
            due.is("nothing " + what, x.told(e, what), ofNothing[what]);
        }
        due.refused(x, "told(, 6)", x.told(t, 6), BAD);
        due.refused(x, "told(, -1)", x.told(t, -1), BAD);
        due.refused(x, "told(9, 0)", x.told(9, 0), BAD);
        x.crossing(t, 0, 0, 0, 0);
        due.is("told 0 of an open one", x.told(t, 0), 4);
        due.is("told 1 of an open one", x.told(t, 1), 0);
        for (int what = 2; what < 6; what++) {
            due.refused(x, "told of an open one", x.told(t, what), OPEN);
        }
        due.refused(x, "told(open, 6)", x.told(t, 6), BAD);
    }

    private static void promise12Mirror() {
        KnotTable x = new KnotTable();
        int p = House.knot(x, House.TREFOIL);
        due.is("mirror", x.mirror(p), 1);
        due.holds("its rows: " + House.row(x, p, 0), House.has(x, p, 0, 0, 3, 5, 2)
                && House.has(x, p, 1, 4, 1, 3, 0) && House.has(x, p, 2, 2, 5, 1, 4));
        due.is("its writhe", x.told(p, 5), -3);
        due.is("mirror of nothing", x.mirror(x.picture()), 1);
        int big = House.kinks(x, 40);
        due.is("mirror of 40", x.mirror(big), 1);
        due.is("its writhe", x.told(big, 5), 40);
        due.is("turn of 40", x.turn(big), 1);
        due.is("its writhe", x.told(big, 5), 40);
        due.is("undo of 40", x.undo(big), 1);
        due.refused(x, "mirror(7)", x.mirror(7), BAD);
        x.put(p, 0, 0, 50);
        due.refused(x, "mirror of an open one", x.mirror(p), OPEN);
    }

    private static void promise13Turn() {
        KnotTable x = new KnotTable();
        int p = House.knot(x, House.TREFOIL);
        due.is("turn", x.turn(p), 1);
        due.holds("its rows: " + House.row(x, p, 0), House.has(x, p, 0, 0, 2, 5, 3)
                && House.has(x, p, 1, 4, 0, 3, 1) && House.has(x, p, 2, 2, 4, 1, 5));
        due.is("its writhe stays", x.told(p, 5), 3);
        due.is("it is flat still", x.open(p), 0);
        x.turn(p);
        due.holds("twice is not at all", House.has(x, p, 0, 2, 0, 3, 5));
        due.refused(x, "turn(-1)", x.turn(-1), BAD);
        x.row(p, 0, 2);
        due.refused(x, "turn of an open one", x.turn(p), OPEN);
    }

    private static void promise14Join() {
        KnotTable x = new KnotTable();
        int t = House.knot(x, House.TREFOIL);
        x.loose(t, 2);
        int k = x.picture();
        x.crossing(k, 50, 3, 3, 50);
        x.loose(k, 1);
        // the trefoil has arcs 0 .. 5; the kink's 50 and 3 become 6 and 7; 8 is free
        int j = x.join(t, 0, k, 3);
        due.is("join", j, 2);
        due.holds("trefoil's row 0: " + House.row(x, j, 0), House.has(x, j, 0, 2, 0, 3, 5));
        due.holds("trefoil's row 2: " + House.row(x, j, 2), House.has(x, j, 2, 4, 8, 5, 1));
        due.holds("kink's row: " + House.row(x, j, 3), House.has(x, j, 3, 8, 7, 7, 2));
        due.is("loose", x.told(j, 1), 3);
        due.is("whole", x.open(j), 0);
        due.is("one piece and circles", x.told(j, 2), 4);
        due.refused(x, "undo of a new one", x.undo(j), NOT);
        int s = x.join(t, 4, t, 11);
        due.is("join with itself", s, 3);
        due.is("determinant of a granny", x.determinant(s), 0);
        x.loose(s, 0);
        due.is("determinant of a granny", x.determinant(s), 9);
        due.holds("its arcs: " + House.row(x, s, 3), x.end(s, 1, 0) == x.end(s, 5, 3));
        due.holds("the trefoil is as it was", House.has(x, t, 2, 4, 2, 5, 1));
        due.refused(x, "join(9)", x.join(9, 0, t, 0), BAD);
        due.refused(x, "join to 9", x.join(t, 0, 9, 0), BAD);
        due.refused(x, "end 12", x.join(t, 12, k, 0), NOT);
        due.refused(x, "end -1", x.join(t, 0, k, -1), NOT);
        due.refused(x, "end 4", x.join(t, 0, k, 4), NOT);
        x.loose(t, 5);
        x.loose(k, 5);
        due.refused(x, "circles", x.join(t, 0, k, 0), MANY);
        due.refused(x, "circles, no end", x.join(t, 77, k, 0), NOT);
        x.loose(k, 4);
        due.is("nine circles", x.join(t, 0, k, 0), 4);
        x.put(k, 0, 0, -1);
        due.refused(x, "an open one", x.join(t, 99, k, 0), OPEN);
        due.refused(x, "an open one", x.join(k, 0, t, 0), OPEN);
    }

    private static void promise14JoinEdges() {
        KnotTable x = new KnotTable();
        int big = House.kinks(x, 20);
        int more = House.kinks(x, 21);
        due.is("20 and 20", x.join(big, 0, big, 79), 2);
        due.is("40 crossings", x.told(2, 0), 40);
        due.is("whole", x.open(2), 0);
        due.refused(x, "20 and 21", x.join(big, 0, more, 0), MANY);
        while (x.count(0) < 24) {
            x.picture();
        }
        due.refused(x, "full", x.join(big, -1, more, 0), FULL);
        due.refused(x, "bad ahead of full", x.join(big, 0, 24, 0), BAD);
        x.put(big, 0, 0, -1);
        due.refused(x, "full ahead of open", x.join(big, 0, big, 0), FULL);
    }

    private static void promise15Twin() {
        KnotTable x = new KnotTable();
        int p = x.picture();
        x.crossing(p, 9, -1, 9, 9);
        x.crossing(p, 1, 2, 3, 4);
        x.row(p, 1, -1);
        x.loose(p, 4);
        int q = x.twin(p);
        due.is("twin of an open one", q, 1);
        due.holds("its row", House.has(x, q, 0, 9, -1, 9, 9));
        due.is("its none", x.end(q, 1, 0), LACKING);
        due.is("its circles", x.told(q, 1), 4);
        x.put(q, 0, 0, 5);
        due.is("the first one stays", x.end(p, 0, 0), 9);
        due.refused(x, "twin(2)", x.twin(2), BAD);
        while (x.count(0) < 24) {
            x.twin(p);
        }
        due.refused(x, "twin", x.twin(p), FULL);
        due.refused(x, "twin(24)", x.twin(24), BAD);
        KnotTable y = new KnotTable();
        int t = House.knot(y, House.TREFOIL);
        y.mirror(t);
        due.refused(y, "undo of a twin", y.undo(y.twin(t)), NOT);
        due.is("undo of the first", y.undo(t), 0);
    }

    private static void promise16Undo() {
        KnotTable x = new KnotTable();
        int p = House.knot(x, House.TREFOIL);
        int twist = x.move(0, 0, 0, 0);
        int circle = x.move(0, -1, 0, 0);
        long[] seen = new long[20];
        for (int k = 0; k < 4; k++) {
            seen[4 * k] = x.digest();
            x.mirror(p);
            seen[4 * k + 1] = x.digest();
            x.does(p, twist);
            seen[4 * k + 2] = x.digest();
            x.turn(p);
            x.does(p, circle);
            x.may(p, twist);
            seen[4 * k + 3] = x.digest();
            due.is("undoes", x.undoes(p, x.move(5, 0, 0, 0)), 1);
        }
        due.refused(x, "what is refused is not undone", x.does(p, circle), NOT);
        for (int k = 15; k > 5; k--) {
            due.is("undo", x.undo(p), k - 6);
            due.is("digest", x.digest(), seen[k]);
        }
        due.refused(x, "undo of the eleventh", x.undo(p), NOT);
        due.is("digest", x.digest(), seen[6]);
        x.mirror(p);
        due.is("one again", x.undo(p), 0);
        due.refused(x, "undo(-1)", x.undo(-1), BAD);
        due.refused(x, "undo(1)", x.undo(1), BAD);
    }

    private static void promise16ToldAnew() {
        KnotTable x = new KnotTable();
        int p = House.kinks(x, 2);
        int q = x.twin(p);
        x.mirror(p);
        x.crossing(p, 0, 0, 0, 100);
        x.row(p, 5, 1);
        x.put(p, 0, 4, 1);
        x.copy(p, 0, 0, p, 0, 3, 4);
        x.loose(p, 10);
        x.copy(p, 0, 0, q, 0, 0, 4);
        due.is("refused calls and a copy from it", x.undo(p), 0);
        x.mirror(p);
        x.crossing(p, 8, 9, 9, 8);
        due.refused(x, "behind crossing", x.undo(p), NOT);
        x.mirror(p);
        x.row(p, 0, 4);
        due.refused(x, "behind row", x.undo(p), NOT);
        x.mirror(p);
        x.put(p, 0, 0, x.end(p, 0, 0));
        due.refused(x, "behind put", x.undo(p), NOT);
        x.mirror(p);
        x.copy(p, 0, 0, p, 0, 0, 4);
        due.refused(x, "behind copy to it", x.undo(p), NOT);
        x.mirror(p);
        x.loose(p, 0);
        due.refused(x, "behind loose", x.undo(p), NOT);
        x.mirror(p);
        x.mirror(q);
        x.loose(q, 1);
        due.is("another one is told anew", x.undo(p), 0);
    }

    public static void main(String[] args) {
        promise1NewObject();
        promise2Picture();
        promise3Crossing();
        promise4Row();
        promise5End();
        promise6Put();
        promise7Copy();
        promise8Loose();
        promise9Open();
        promise10Where();
        promise11Told();
        promise12Mirror();
        promise13Turn();
        promise14Join();
        promise14JoinEdges();
        promise15Twin();
        promise16Undo();
        promise16ToldAnew();
        due.end("PicturesTest");
    }
}
