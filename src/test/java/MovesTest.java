/** Promises 31 to 37: moves, and what the terms say of each KIND. */
public final class MovesTest {
    private static final Due due = new Due();
    private static final int NONE = House.NONE, BAD = House.BAD, FULL = House.FULL, OPEN = House.OPEN;
    private static final int UNFIT = House.UNFIT, NOT = House.NOT, MANY = House.MANY;
    private static final int TWIST = 0, POKE = 1, SLIDE = 2, FLYPE = 3, SMOOTH = 4, CHANGE = 5;

    private static int does(KnotTable x, int p, int kind, int a, int b, int c) {
        return x.does(p, x.move(kind, a, b, c));
    }

    private static int undoes(KnotTable x, int p, int kind, int a, int b, int c) {
        return x.undoes(p, x.move(kind, a, b, c));
    }

    private static void picture(KnotTable x, int p, String call, int loose, String... rows) {
        due.is(call + ": crossings", x.told(p, 0), rows.length);
        due.is(call + ": circles", x.told(p, 1), loose);
        for (int c = 0; c < rows.length; c++) {
            String row = House.row(x, p, c);
            due.holds(call + ": row " + c + " is " + row + ", due is " + rows[c], row.equals(rows[c]));
        }
        due.is(call + ": open", x.open(p), 0);
    }

    private static void promise31Move() {
        KnotTable x = new KnotTable();
        due.refused(x, "kind 6", x.move(6, 0, 0, 0), BAD);
        due.refused(x, "kind -1", x.move(-1, 0, 0, 0), BAD);
        for (int m = 0; m < 60; m++) {
            due.is("move", x.move(m % 6, Integer.MIN_VALUE, Integer.MAX_VALUE, m), m);
        }
        due.refused(x, "move 61", x.move(0, 0, 0, 0), FULL);
        due.refused(x, "bad ahead of full", x.move(6, 0, 0, 0), BAD);
        due.is("count(1)", x.count(1), 60);
        due.is("the last one stays", x.tells(59, 3), 59);
    }

    private static void promise32Tells() {
        KnotTable x = new KnotTable();
        int[] more = {1, 2, 0, 0, -1, 0};
        for (int kind = 0; kind < 6; kind++) {
            x.move(kind, -2, -15, 100 + kind);
        }
        for (int m = 0; m < 6; m++) {
            due.is("kind", x.tells(m, 0), m);
            due.is("a", x.tells(m, 1), -2);
            due.is("a is no refusal", x.status(), 0);
            due.is("b", x.tells(m, 2), -15);
            due.is("c", x.tells(m, 3), 100 + m);
            due.is("crossings more", x.tells(m, 4), more[m]);
            due.is("that is no refusal", x.status(), 0);
            due.is("whether 0", x.tells(m, 5), more[m] == 0 ? 1 : 0);
        }
        due.refused(x, "what = 6", x.tells(0, 6), BAD);
        due.refused(x, "what = -1", x.tells(0, -1), BAD);
        due.refused(x, "no move", x.tells(6, 0), BAD);
        due.refused(x, "no move", x.tells(-1, 0), BAD);
        due.is("that is no finding", x.findings(5), 0);
    }

    private static void promise33As() {
        KnotTable x = new KnotTable();
        for (int kind = 0; kind < 6; kind++) {
            x.move(kind, 0, 0, 0);
        }
        for (int m = 0; m < 6; m++) {
            for (int kind = 0; kind < 6; kind++) {
                boolean fits = m == kind || m == kind + 1 && kind % 2 == 0;
                due.is("as(" + m + ", " + kind + ")", x.as(m, kind), fits ? 1 : UNFIT);
                due.is("status()", x.status(), fits ? 0 : UNFIT);
            }
        }
        due.is("findings(4)", x.findings(4), 36 - 9);
        due.refused(x, "kind 6", x.as(0, 6), BAD);
        due.refused(x, "kind -1", x.as(0, -1), BAD);
        due.refused(x, "no move", x.as(6, 0), BAD);
    }

    private static void promise34May() {
        KnotTable x = new KnotTable();
        int p = House.knot(x, House.TREFOIL);
        int twist = x.move(TWIST, 3, 2, 77);
        int wrong = x.move(TWIST, 12, 2, 0);
        long before = x.digest();
        due.granted(x, "may", x.may(p, twist), 1);
        due.is("nothing is done", x.digest(), before);
        due.refused(x, "nothing to undo", x.undo(p), NOT);
        due.refused(x, "no end", x.may(p, wrong), NOT);
        due.refused(x, "no move", x.may(p, 2), BAD);
        due.refused(x, "no picture", x.may(1, twist), BAD);
        x.put(p, 0, 0, -1);
        due.refused(x, "open ahead of not", x.may(p, wrong), OPEN);
        due.refused(x, "bad ahead of open", x.may(p, -1), BAD);
        int big = House.kinks(x, 40);
        due.refused(x, "41 crossings", x.may(big, twist), MANY);
        due.refused(x, "not ahead of many", x.may(big, x.move(TWIST, 160, 0, 0)), NOT);
    }

    private static void promise35Does() {
        KnotTable x = new KnotTable();
        int p = House.knot(x, House.TREFOIL);
        int twist = x.move(TWIST, 3, 2, 0);
        due.granted(x, "does", x.does(p, twist), 1);
        due.is("crossings", x.told(p, 0), 4);
        due.is("does again", x.does(p, twist), 1);
        due.is("crossings", x.told(p, 0), 5);
        long before = x.digest();
        due.refused(x, "no end", x.does(p, x.move(TWIST, 20, 0, 0)), NOT);
        due.refused(x, "no move", x.does(p, 77), BAD);
        due.refused(x, "no picture", x.does(-1, twist), BAD);
        due.is("digest", x.digest(), before);
        due.is("two can be undone", x.undo(p), 1);
        x.row(p, 0, -1);
        due.refused(x, "open", x.does(p, twist), OPEN);
    }

    private static void promise36Undoes() {
        KnotTable x = new KnotTable();
        int p = House.knot(x, House.TREFOIL);
        int smooth = x.move(SMOOTH, 0, 0, 0);
        int change = x.move(CHANGE, 0, 0, 0);
        due.granted(x, "undone without being done", x.undoes(p, change), 1);
        due.is("it is told", House.has(x, p, 0, 5, 2, 0, 3) ? 1 : 0, 1);
        due.is("it can be undone", x.undo(p), 0);
        due.refused(x, "SMOOTH", x.undoes(p, smooth), UNFIT);
        due.refused(x, "no end", x.undoes(p, x.move(CHANGE, 3, 0, 0)), NOT);
        due.refused(x, "no move", x.undoes(p, 50), BAD);
        due.refused(x, "no picture", x.undoes(9, smooth), BAD);
        x.put(p, 0, 0, -1);
        due.refused(x, "SMOOTH ahead of open", x.undoes(p, smooth), UNFIT);
        due.refused(x, "open", x.undoes(p, change), OPEN);
        int k = House.kinks(x, 1);
        x.loose(k, 9);
        long before = x.digest();
        due.refused(x, "ten circles", undoes(x, k, TWIST, 1, 0, 0), MANY);
        due.is("digest", x.digest(), before);
        x.loose(k, 8);
        due.is("nine circles", undoes(x, k, TWIST, 1, 0, 0), 1);
        due.is("nine circles", x.told(k, 1), 9);
    }

    private static void promise37Trace() {
        KnotTable x = new KnotTable();
        int[][] bodies = {{1}, {2, 1, 1}, {3}, {3}, {5}, {6}};
        for (int kind = 0; kind < 6; kind++) {
            x.move(kind, 0, 0, 0);
        }
        for (int m = 0; m < 6; m++) {
            for (int what = 5; what >= 4; what--) {
                x.tells(m, what);
                for (int k = 0; k < 4; k++) {
                    due.is("trace of " + m, x.trace(k), k < bodies[m].length ? bodies[m][k] : NONE);
                }
            }
            due.is("trace(-1)", x.trace(-1), NONE);
        }
        x.tells(1, 4);
        x.tells(9, 4);
        x.tells(1, 6);
        x.does(0, 0);
        x.as(1, 0);
        due.is("BAD leaves it", x.trace(2), 1);
        due.is("trace() leaves status()", x.status(), 0);
        for (int what = 0; what < 4; what++) {
            x.tells(1, 4);
            x.tells(1, what);
            due.is("none behind " + what, x.trace(0), NONE);
        }
    }

    private static void twistDone() {
        String[] sorts = {"2 6 6 7", "2 7 6 6", "6 6 7 2", "7 6 6 2"};
        int[] signs = {-1, 1, 1, -1};
        for (int sort = 0; sort < 4; sort++) {
            KnotTable x = new KnotTable();
            int p = House.knot(x, House.TREFOIL);
            due.is("twist", does(x, p, TWIST, 0, sort, 99), 1);
            picture(x, p, "twist " + sort, 0, "2 0 3 5", "0 4 1 3", "4 7 5 1", sorts[sort]);
            due.is("its sign", x.sign(p, 3), signs[sort]);
        }
        KnotTable x = new KnotTable();
        int p = House.knot(x, House.TREFOIL);
        int[] noSorts = {-1, 4, Integer.MAX_VALUE};
        for (int sort : noSorts) {
            due.refused(x, "sort " + sort, does(x, p, TWIST, 0, sort, 0), NOT);
        }
        int[] noEnds = {-1, -2, 12, Integer.MIN_VALUE, Integer.MAX_VALUE};
        for (int a : noEnds) {
            due.refused(x, "end " + a, does(x, p, TWIST, a, 0, 0), NOT);
        }
        x.put(p, 0, 0, 7);
        x.put(p, 2, 1, 7);
        due.is("twist", does(x, p, TWIST, 0, 0, 0), 1);
        picture(x, p, "the least free arcs", 0, "7 0 3 5", "0 4 1 3", "4 6 5 1", "7 2 2 6");
    }

    private static void twistOfCircle() {
        String[] sorts = {"1 3 3 1", "1 1 3 3", "3 3 1 1", "1 3 3 1"};
        for (int sort = 0; sort < 4; sort++) {
            KnotTable x = new KnotTable();
            int p = x.picture();
            x.crossing(p, 0, 2, 2, 0);
            x.loose(p, 2);
            due.is("twist", does(x, p, TWIST, -1, sort, 0), 1);
            picture(x, p, "circle " + sort, 1, "0 2 2 0", sorts[sort]);
        }
        KnotTable x = new KnotTable();
        int p = x.picture();
        x.loose(p, 1);
        due.refused(x, "sort 4", does(x, p, TWIST, -1, 4, 0), NOT);
        due.refused(x, "end 0", does(x, p, TWIST, 0, 0, 0), NOT);
        int full = House.kinks(x, 40);
        due.refused(x, "no circle", does(x, full, TWIST, -1, 0, 0), NOT);
        x.loose(full, 1);
        due.refused(x, "many", does(x, full, TWIST, -1, 0, 0), MANY);
    }

    private static void twistUndone() {
        // rows 2 6 6 7, 2 7 6 6, 6 6 7 2, 7 6 6 2: where the kink is, and the ARC of i + 2, which stays
        int[] at = {13, 14, 12, 13};
        int[] kept = {7, 2, 7, 2};
        for (int sort = 0; sort < 4; sort++) {
            KnotTable x = new KnotTable();
            int p = House.knot(x, House.TREFOIL);
            does(x, p, TWIST, 0, sort, 0);
            for (int e = 12; e < 16; e++) {
                if (e != at[sort]) {
                    due.refused(x, "no kink at " + e, undoes(x, p, TWIST, e, sort, 0), NOT);
                }
            }
            due.is("undone", undoes(x, p, TWIST, at[sort], 9, 9), 1);
            picture(x, p, "undone " + sort, 0, kept[sort] + " 0 3 5", "0 4 1 3", "4 " + kept[sort] + " 5 1");
        }
        KnotTable x = new KnotTable();
        int p = House.kinks(x, 1);
        due.refused(x, "end 4", undoes(x, p, TWIST, 4, 0, 0), NOT);
        due.refused(x, "end -1", undoes(x, p, TWIST, -1, 0, 0), NOT);
        due.refused(x, "end 0", undoes(x, p, TWIST, 0, 0, 0), NOT);
        due.is("end 3 and 0", undoes(x, p, TWIST, 3, 0, 0), 1);
        picture(x, p, "a circle", 1);
    }

    private static void pokeDone() {
        KnotTable x = new KnotTable();
        int p = House.knot(x, House.TREFOIL);
        int q = x.twin(p);
        due.is("over", does(x, p, POKE, 0, 8, 0), 1);
        picture(x, p, "over", 0, "2 0 3 5", "0 9 1 3", "4 7 5 1", "8 6 9 2", "4 6 8 7");
        due.is("under", does(x, q, POKE, 0, 8, 1), 1);
        picture(x, q, "under", 0, "2 0 3 5", "0 9 1 3", "4 7 5 1", "2 8 6 9", "7 4 6 8");
        int t = House.knot(x, House.TREFOIL);
        due.refused(x, "another c", does(x, t, POKE, 0, 8, 2), NOT);
        due.refused(x, "another c", does(x, t, POKE, 0, 8, -1), NOT);
        due.refused(x, "another region", does(x, t, POKE, 0, 5, 0), NOT);
        due.refused(x, "one end twice", does(x, t, POKE, 0, 0, 0), NOT);
        due.refused(x, "no end", does(x, t, POKE, 0, 12, 0), NOT);
        due.refused(x, "no end", does(x, t, POKE, -1, 0, 0), NOT);
        int k = House.kinks(x, 1);
        due.is("in a kink's outer region", does(x, k, POKE, 0, 2, 0), 1);
        due.is("whole", x.open(k), 0);
        int same = x.picture();
        x.crossing(same, 0, 1, 1, 2);
        x.crossing(same, 2, 3, 3, 0);
        due.refused(x, "one arc from both sides", does(x, same, POKE, 0, 7, 0), NOT);
        int big = House.kinks(x, 39);
        due.refused(x, "41 crossings", does(x, big, POKE, 0, 2, 0), MANY);
        int less = House.kinks(x, 38);
        due.is("40 crossings", does(x, less, POKE, 0, 2, 0), 1);
        due.is("40 crossings", x.told(less, 0), 40);
    }

    private static void pokeUndone() {
        KnotTable x = new KnotTable();
        int p = House.knot(x, House.TREFOIL);
        does(x, p, POKE, 0, 8, 0);
        due.is("at 17", undoes(x, p, POKE, 17, 99, 99), 1);
        picture(x, p, "at 17", 0, "7 0 3 5", "0 4 1 3", "4 7 5 1");
        x.undo(p);
        due.is("at 12", undoes(x, p, POKE, 12, 0, 0), 1);
        picture(x, p, "at 12", 0, "2 0 3 5", "0 9 1 3", "9 2 5 1");
        x.undo(p);
        due.is("crossings 2 and 4", undoes(x, p, POKE, 8, 0, 0), 1);
        picture(x, p, "at 8", 0, "2 0 3 5", "0 9 1 3", "5 1 9 2");
        x.undo(p);
        int[] nowhere = {0, 13, 16, 18, 20, -1, Integer.MAX_VALUE};
        for (int a : nowhere) {
            due.refused(x, "at " + a, undoes(x, p, POKE, a, 0, 0), NOT);
        }
        int t = House.knot(x, House.HOPF);
        for (int a = 0; a < 8; a++) {
            due.refused(x, "a region of two that is linked", undoes(x, t, POKE, a, 0, 0), NOT);
        }
        int u = House.knot(x, House.UNLINK);
        x.loose(u, 7);
        int lens = -1;
        for (int a = 0; a < 8; a++) {
            if (undoes(x, u, POKE, a, 0, 0) == 1) {
                lens = a;
                picture(x, u, "two circles", 9);
                x.undo(u);
            }
        }
        due.holds("the unlink came apart", lens >= 0);
        x.loose(u, 8);
        due.refused(x, "ten circles", undoes(x, u, POKE, lens, 0, 0), MANY);
    }

    private static void slide() {
        KnotTable x = new KnotTable();
        int p = House.knot(x, House.TREFOIL);
        for (int e = 0; e < 12; e++) {
            due.refused(x, "a triangle that alternates", does(x, p, SLIDE, e, 0, 0), NOT);
        }
        does(x, p, POKE, 0, 8, 1);
        String[] slid = {"6 1 2 0", "5 8 0 9", "4 7 5 1", "3 9 2 3", "7 4 6 8"};
        int[] at = {0, 4, 15};
        for (int e : at) {
            due.is("slide at " + e, does(x, p, SLIDE, e, 55, 66), 1);
            picture(x, p, "slide at " + e, 0, slid);
            due.is("undone at " + e, undoes(x, p, SLIDE, e, 55, 66), 1);
            picture(x, p, "undone at " + e, 0, "2 0 3 5", "0 9 1 3", "4 7 5 1", "2 8 6 9", "7 4 6 8");
            due.is("undone across", undoes(x, p, SLIDE, e ^ 2, 0, 0), 1);
            picture(x, p, "undone across", 0, slid);
            x.undo(p);
        }
        int[] nowhere = {1, 2, 8, 20, -1, Integer.MIN_VALUE};
        for (int e : nowhere) {
            due.refused(x, "slide at " + e, does(x, p, SLIDE, e, 0, 0), NOT);
        }
        int[] noEnds = {20, -1, Integer.MAX_VALUE};
        for (int e : noEnds) {
            due.refused(x, "undone at " + e, undoes(x, p, SLIDE, e, 0, 0), NOT);
        }
    }

    private static void flype() {
        KnotTable x = new KnotTable();
        int p = House.knot(x, House.FIGURE_EIGHT);
        due.is("flype", does(x, p, FLYPE, 2, 12, 0), 1);
        picture(x, p, "flype", 0, "5 7 3 1", "0 4 1 3", "7 6 2 0", "4 2 6 5");
        due.is("undone", undoes(x, p, FLYPE, 2, 12, 0), 1);
        picture(x, p, "undone", 0, "4 0 5 7", "0 4 1 3", "6 1 7 2", "2 5 3 6");
        due.is("of one", does(x, p, FLYPE, 0, 2, 0), 1);
        picture(x, p, "of one", 0, "1 3 4 0", "5 7 0 4", "6 1 7 2", "2 5 3 6");
        x.undo(p);
        due.refused(x, "c is in T", does(x, p, FLYPE, 2, 13, 0), NOT);
        due.refused(x, "no such crossing", does(x, p, FLYPE, 2, 12 + 16, 0), NOT);
        due.refused(x, "below 0", does(x, p, FLYPE, 2, 12 | Integer.MIN_VALUE, 0), NOT);
        due.refused(x, "no bits", does(x, p, FLYPE, 2, 0, 0), NOT);
        due.refused(x, "one of two", does(x, p, FLYPE, 2, 8, 0), NOT);
        due.refused(x, "no end", does(x, p, FLYPE, 16, 12, 0), NOT);
        due.refused(x, "no end", does(x, p, FLYPE, -1, 12, 0), NOT);
        due.refused(x, "no end, undone", undoes(x, p, FLYPE, 18, 12, 0), NOT);
        int big = House.braid(x, 40);
        due.is("from place 35 to 30", x.may(big, x.move(FLYPE, 4 * 31, 1 << 30, 0)) == 1
                || x.may(big, x.move(FLYPE, 4 * 31 + 3, 1 << 30, 0)) == 1 ? 1 : 0, 1);
        due.refused(x, "place 31 has no bit", x.may(big, x.move(FLYPE, 4 * 32 + 3, 1, 0)), NOT);
        int thirty = House.braid(x, 30);
        due.is("bit 29 of 30 crossings", x.may(thirty, x.move(FLYPE, 3, 1 << 29, 0)), 1);
        due.refused(x, "bit 30 of 30 crossings", x.may(thirty, x.move(FLYPE, 3, 1 << 29 | 1 << 30, 0)), NOT);
        int more = House.braid(x, 31);
        due.is("bit 30 of 31 crossings", x.may(more, x.move(FLYPE, 3, 1 << 30, 0)), 1);
    }

    private static void flypeThatTurnsBack() {
        KnotTable x = new KnotTable();
        int p = House.kinks(x, 3);
        for (int a = 0; a < 12; a++) {
            for (int bits = 0; bits < 8; bits++) {
                int m = x.move(FLYPE, a, bits, 0);
                if (m < 0) {
                    x = new KnotTable();
                    p = House.kinks(x, 3);
                    m = x.move(FLYPE, a, bits, 0);
                }
                int answer = x.does(p, m);
                due.holds("it is done or not", answer == 1 || answer == NOT);
                if (answer == 1) {
                    due.is("it is flat", x.open(p), 0);
                    due.is("it is no knot", x.polynomial(p), 1);
                    x.undo(p);
                }
            }
        }
    }

    private static void smoothAndChange() {
        KnotTable x = new KnotTable();
        int p = House.knot(x, House.TREFOIL);
        due.is("way 0", does(x, p, SMOOTH, 0, 0, 99), 1);
        picture(x, p, "way 0", 0, "2 4 1 3", "4 2 3 1");
        x.undo(p);
        due.is("way 1", does(x, p, SMOOTH, 0, 1, 99), 1);
        picture(x, p, "way 1", 0, "0 4 1 0", "4 2 2 1");
        due.is("way 0 at a kink", does(x, p, SMOOTH, 1, 0, 0), 1);
        due.is("way 1 at a kink", does(x, p, SMOOTH, 0, 1, 0), 1);
        due.is("crossings", x.told(p, 0), 0);
        int big = House.kinks(x, 40);
        due.is("the first of 40", does(x, big, SMOOTH, 0, 1, 0), 1);
        due.is("the last of 39", does(x, big, SMOOTH, 38, 1, 0), 1);
        due.is("38 are left", x.told(big, 0), 38);
        due.is("two circles came", x.told(big, 1), 2);
        due.is("it is whole", x.open(big), 0);
        int k = House.kinks(x, 1);
        x.loose(k, 8);
        due.refused(x, "two circles more", does(x, k, SMOOTH, 0, 1, 0), MANY);
        due.is("one circle more", does(x, k, SMOOTH, 0, 0, 0), 1);
        due.is("circles", x.told(k, 1), 9);
        int t = House.knot(x, House.TREFOIL);
        due.refused(x, "way 2", does(x, t, SMOOTH, 0, 2, 0), NOT);
        due.refused(x, "way -1", does(x, t, SMOOTH, 0, -1, 0), NOT);
        due.refused(x, "crossing 3", does(x, t, SMOOTH, 3, 0, 0), NOT);
        due.refused(x, "crossing -1", does(x, t, SMOOTH, -1, 0, 0), NOT);
        due.is("change", does(x, t, CHANGE, 1, 99, 99), 1);
        picture(x, t, "change", 0, "2 0 3 5", "4 1 3 0", "4 2 5 1");
        due.is("it is no knot now", x.determinant(t), 1);
        due.is("undone", undoes(x, t, CHANGE, 2, 0, 0), 1);
        picture(x, t, "undone", 0, "2 0 3 5", "4 1 3 0", "1 4 2 5");
        due.refused(x, "crossing 3", does(x, t, CHANGE, 3, 0, 0), NOT);
        due.refused(x, "crossing -1", undoes(x, t, CHANGE, -1, 0, 0), NOT);
    }

    public static void main(String[] args) {
        promise31Move();
        promise32Tells();
        promise33As();
        promise34May();
        promise35Does();
        promise36Undoes();
        promise37Trace();
        twistDone();
        twistOfCircle();
        twistUndone();
        pokeDone();
        pokeUndone();
        slide();
        flype();
        flypeThatTurnsBack();
        smoothAndChange();
        due.end("MovesTest");
    }
}
