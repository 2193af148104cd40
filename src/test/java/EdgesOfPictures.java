/** Promises 1 to 16: pictures. */
final class EdgesOfPictures {
    private static final int NONE = Run.NONE, BAD = Run.BAD, FULL = Run.FULL, LACKING = Run.LACKING;
    private static final int BEYOND = Run.BEYOND, OPEN = Run.OPEN, NOT = Run.NOT, MANY = Run.MANY;

    private EdgesOfPictures() {
    }

    @Sentence(of = "Promise 1", says = "No PICTURES, MOVES, names.")
    static void newObject() {
        Run x = new Run();
        for (int what = 0; what <= 4; what++) {
            x.is(x.count(what), 0);
        }
        x.is(x.status(), 0);
        x.is(x.digest(), 17);
        x.no(x.open(0), BAD);
        x.no(x.tells(0, 0), BAD);
        x.no(x.power(0), NOT);
        x.no(x.searched(0), NOT);
        x.no(x.ofGauss(), NOT);
        x.is(x.item(0), BAD);
        x.is(x.where(), NONE);
        x.is(x.way(0), NONE);
        x.is(x.trace(0), NONE);
        x.is(x.parted(), 0);
        x.is(x.at(0), 0);
        int c = x.circles(1);
        x.is(x.name(c), 0);
        x.is(x.count(0), 1);
        // one object's things are not another one's
        Run y = new Run();
        y.is(y.count(0), 0);
        y.no(y.open(c), BAD);
    }

    @Sentence(of = "Promise 2", says = "A PICTURE without anything: its number.")
    static void pictureWithoutAnything() {
        Run x = new Run();
        for (int p = 0; p < 3; p++) {
            x.is(x.picture(), p);
            x.is(x.told(p, 0), 0);
            x.is(x.told(p, 1), 0);
            x.no(x.end(p, 0, 0), BEYOND);
            x.is(x.open(p), 0);
            x.no(x.undo(p), NOT);
            x.crossing(p, 1, 2, 3, 4);
            x.loose(p, 9);
        }
    }

    @Sentence(of = "Promise 2", says = "FULL.")
    static void pictureFull() {
        Run x = new Run();
        x.fillPictures(22);
        x.is(x.picture(), 22);
        x.is(x.picture(), 23);
        x.no(x.picture(), FULL);
        x.no(x.picture(), FULL);
        x.is(x.count(0), 24);
    }

    @Sentence(of = "Promise 3", says = "A CROSSING more, with four ARCS (-1 .. 99): its PLACE.")
    static void crossingArcs() {
        Run x = new Run();
        int p = x.picture();
        int place = 0;
        for (int i = 0; i < 4; i++) {
            int[] arcs = {-2, -1, 0, 1, 98, 99, 100};
            for (int arc : arcs) {
                int[] v = {10, 20, 30, 40};
                v[i] = arc;
                int answer = x.crossing(p, v[0], v[1], v[2], v[3]);
                if (arc < -1 || arc > 99) {
                    x.no(answer, BAD);
                } else {
                    x.is(answer, place);
                    x.is(x.end(p, place, i), arc);
                    x.is(x.end(p, place, (i + 1) % 4), v[(i + 1) % 4]);
                    place++;
                }
            }
        }
        x.is(x.told(p, 0), 20);
    }

    @Sentence(of = "Promise 3", says = "BAD; FULL: 40.")
    static void crossingFull() {
        Run x = new Run();
        int p = x.picture();
        for (int c = 0; c < 39; c++) {
            x.crossing(p, 0, 0, 0, 0);
        }
        x.is(x.crossing(p, 1, 2, 3, 4), 39);
        x.no(x.crossing(p, 1, 2, 3, 4), FULL);
        x.no(x.crossing(p, 1, 2, 3, 100), BAD);
        x.no(x.crossing(p, -2, 2, 3, 4), BAD);
        x.no(x.crossing(-1, 1, 2, 3, 4), BAD);
        x.no(x.crossing(1, 1, 2, 3, 4), BAD);
        x.is(x.told(p, 0), 40);
        x.is(x.crossing(x.picture(), 1, 2, 3, 4), 0);
    }

    @Sentence(of = "Promise 4", says = "A ROW has n ENDS from now on (0 .. 4; those it had, else -1),")
    static void rowLengths() {
        // from each length to each other one
        for (int had = 0; had <= 4; had++) {
            Run x = new Run();
            for (int n = 0; n <= 4; n++) {
                int p = x.rows(new int[] {5, 6, 7, 8}, new int[] {1, 1, 1, 1});
                x.row(p, 0, had);
                x.is(x.row(p, 0, n), 1);
                for (int i = 0; i < 5; i++) {
                    if (i < n) {
                        x.is(x.end(p, 0, i), i < had ? 5 + i : -1);
                    } else {
                        x.no(x.end(p, 0, i), BEYOND);
                    }
                }
                x.is(x.end(p, 1, 0), 1);
            }
        }
    }

    @Sentence(of = "Promise 4", says = "or is none (-1): 1.")
    static void rowNone() {
        Run x = new Run();
        int p = x.rows(new int[] {5, 6, 7, 8});
        x.is(x.row(p, 0, -1), 1);
        x.no(x.end(p, 0, 0), LACKING);
        x.is(x.row(p, 0, -1), 1);
        // what was none has nothing left
        x.is(x.row(p, 0, 4), 1);
        for (int i = 0; i < 4; i++) {
            x.is(x.end(p, 0, i), -1);
        }
        x.is(x.row(p, 0, -1), 1);
        x.is(x.row(p, 0, 0), 1);
        x.no(x.end(p, 0, 0), BEYOND);
        x.no(x.row(p, 0, -2), BAD);
    }

    @Sentence(of = "Promise 4", says = "BAD; BEYOND.")
    static void rowRefused() {
        Run x = new Run();
        int p = x.kinks(2);
        x.no(x.row(-1, 0, 4), BAD);
        x.no(x.row(1, 0, 4), BAD);
        x.no(x.row(p, 0, 5), BAD);
        x.no(x.row(p, 0, -2), BAD);
        x.no(x.row(p, 2, 5), BAD);
        x.no(x.row(p, -1, 4), BEYOND);
        x.is(x.row(p, 0, 4), 1);
        x.is(x.row(p, 1, 4), 1);
        x.no(x.row(p, 2, 4), BEYOND);
        for (int far : Run.FAR) {
            x.no(x.row(far, 0, 4), BAD);
            x.no(x.row(p, far, 4), BEYOND);
            x.no(x.row(p, 0, far), BAD);
        }
        x.no(x.row(x.picture(), 0, 4), BEYOND);
    }

    @Sentence(of = "Promise 5", says = "The ARC of ENDS i.")
    static void endArcs() {
        Run x = new Run();
        int p = x.rows(new int[] {-1, 0, 99, 50}, new int[] {1, 2, 3, -1});
        x.is(x.end(p, 0, 0), -1);
        x.is(x.end(p, 0, 1), 0);
        x.is(x.end(p, 0, 2), 99);
        x.is(x.end(p, 0, 3), 50);
        x.is(x.end(p, 1, 0), 1);
        x.is(x.end(p, 1, 3), -1);
    }

    @Sentence(of = "Promise 5", says = "BAD; BEYOND (the CROSSING); LACKING; BEYOND.")
    static void endRefused() {
        Run x = new Run();
        int p = x.rows(new int[] {1, 2, 3, 4}, new int[] {5, 6, 7, 8}, new int[] {9, 10, 11, 12});
        x.row(p, 1, -1);
        x.row(p, 2, 2);
        x.no(x.end(-1, 9, 9), BAD);
        x.no(x.end(1, 9, 9), BAD);
        x.no(x.end(p, -1, 9), BEYOND);
        x.no(x.end(p, 3, 9), BEYOND);
        x.no(x.end(p, 1, 0), LACKING);
        x.no(x.end(p, 1, 4), LACKING);
        x.no(x.end(p, 1, -1), LACKING);
        x.no(x.end(p, 0, -1), BEYOND);
        x.is(x.end(p, 0, 0), 1);
        x.is(x.end(p, 0, 3), 4);
        x.no(x.end(p, 0, 4), BEYOND);
        x.is(x.end(p, 2, 1), 10);
        x.no(x.end(p, 2, 2), BEYOND);
        for (int far : Run.FAR) {
            x.no(x.end(far, 0, 0), BAD);
            x.no(x.end(p, far, 0), BEYOND);
            x.no(x.end(p, 0, far), BEYOND);
        }
        x.is(x.findings(1), 3);
    }

    @Sentence(of = "Promise 6", says = "ENDS i gets an ARC (-1 .. 99): 1.")
    static void putArcs() {
        Run x = new Run();
        int p = x.rows(new int[] {10, 20, 30, 40});
        for (int i = 0; i < 4; i++) {
            x.no(x.put(p, 0, i, -2), BAD);
            x.is(x.end(p, 0, i), 10 + 10 * i);
            x.is(x.put(p, 0, i, -1), 1);
            x.is(x.end(p, 0, i), -1);
            x.is(x.put(p, 0, i, 0), 1);
            x.is(x.end(p, 0, i), 0);
            x.is(x.put(p, 0, i, 99), 1);
            x.is(x.end(p, 0, i), 99);
            x.no(x.put(p, 0, i, 100), BAD);
            x.is(x.end(p, 0, i), 99);
        }
    }

    @Sentence(of = "Promise 6", says = "As end().")
    static void putRefused() {
        Run x = new Run();
        int p = x.rows(new int[] {1, 2, 3, 4}, new int[] {5, 6, 7, 8}, new int[] {9, 10, 11, 12});
        x.row(p, 1, -1);
        x.row(p, 2, 2);
        long before = x.digest();
        x.no(x.put(-1, 0, 0, 5), BAD);
        x.no(x.put(1, 0, 0, 5), BAD);
        x.no(x.put(p, 9, 9, 100), BAD);
        x.no(x.put(p, -1, 0, 5), BEYOND);
        x.no(x.put(p, 3, 0, 5), BEYOND);
        x.no(x.put(p, 1, 0, 5), LACKING);
        x.no(x.put(p, 1, 4, 5), LACKING);
        x.no(x.put(p, 0, -1, 5), BEYOND);
        x.no(x.put(p, 0, 4, 5), BEYOND);
        x.no(x.put(p, 2, 2, 5), BEYOND);
        for (int far : Run.FAR) {
            x.no(x.put(far, 0, 0, 5), BAD);
            x.no(x.put(p, 0, 0, far), BAD);
            x.no(x.put(p, far, 0, 5), BEYOND);
            x.no(x.put(p, 0, far, 5), BEYOND);
        }
        x.is(x.digest(), before);
        x.is(x.put(p, 2, 1, 5), 1);
        x.is(x.end(p, 2, 1), 5);
    }

    private static String row(Run x, int p, int c, int n) {
        StringBuilder told = new StringBuilder();
        for (int i = 0; i < n; i++) {
            told.append(x.end(p, c, i)).append(i < n - 1 ? " " : "");
        }
        return told.toString();
    }

    @Sentence(of = "Promise 7", says = "n ENDS of a ROW, from one on, come to those of another one")
    static void copyOfEachLength() {
        for (int n = 0; n <= 4; n++) {
            Run x = new Run();
            for (int from = 0; from <= 4 - n; from++) {
                for (int to = 0; to <= 4 - n; to++) {
                    int p = x.rows(new int[] {1, 2, 3, 4}, new int[] {5, 6, 7, 8});
                    int q = p;
                    int[] due = {5, 6, 7, 8};
                    for (int k = 0; k < n; k++) {
                        due[to + k] = 1 + from + k;
                    }
                    x.is(x.copy(p, 0, from, q, 1, to, n), 1);
                    x.hold(row(x, q, 1, 4).equals(due[0] + " " + due[1] + " " + due[2] + " " + due[3]), "what came");
                    x.hold(row(x, p, 0, 4).equals("1 2 3 4"), "where it came from stays");
                    if (x.count(0) == 24) {
                        x = new Run();
                    }
                }
            }
        }
        Run x = new Run();
        int p = x.rows(new int[] {-1, 99, 0, 4});
        int q = x.rows(new int[] {5, 6, 7, 8});
        x.is(x.copy(p, 0, 0, q, 0, 1, 3), 1);
        x.looks(q, 0, "5 -1 99 0");
        // from the last of 40 CROSSINGS to the first, and back
        int big = x.parts(40);
        x.is(x.copy(big, 39, 0, q, 0, 0, 4), 1);
        x.looks(q, 0, "78 79 79 78");
        x.is(x.copy(p, 0, 1, big, 39, 2, 2), 1);
        x.is(x.end(big, 39, 1), 79);
        x.is(x.end(big, 39, 2), 99);
        x.is(x.end(big, 39, 3), 0);
        x.is(x.end(big, 38, 3), 76);
    }

    @Sentence(of = "Promise 7", says = "(perhaps the same: as if taken ahead)")
    static void copyWithinOneRow() {
        Run x = new Run();
        String[] forward = {"1 1 2 3", "1 2 1 2", "1 2 3 1"};
        String[] back = {"2 3 4 4", "3 4 3 4", "4 2 3 4"};
        for (int by = 1; by <= 3; by++) {
            int p = x.rows(new int[] {1, 2, 3, 4});
            x.is(x.copy(p, 0, 0, p, 0, by, 4 - by), 1);
            x.looks(p, 0, forward[by - 1]);
            int q = x.rows(new int[] {1, 2, 3, 4});
            x.is(x.copy(q, 0, by, q, 0, 0, 4 - by), 1);
            x.looks(q, 0, back[by - 1]);
        }
        int p = x.rows(new int[] {1, 2, 3, 4});
        x.is(x.copy(p, 0, 0, p, 0, 0, 4), 1);
        x.looks(p, 0, "1 2 3 4");
        x.no(x.copy(p, 0, 0, p, 0, 1, 4), BEYOND);
        x.looks(p, 0, "1 2 3 4");
    }

    @Sentence(of = "Promise 7", says = "from one on, all or none: 1.")
    static void copyAllOrNone() {
        Run x = new Run();
        int p = x.rows(new int[] {1, 2, 3, 4});
        int q = x.rows(new int[] {5, 6, 7, 8});
        x.row(q, 0, 3);
        x.no(x.copy(p, 0, 0, q, 0, 0, 4), BEYOND);
        x.hold(row(x, q, 0, 3).equals("5 6 7"), "none came");
        x.no(x.copy(p, 0, 0, q, 0, 1, 3), BEYOND);
        x.hold(row(x, q, 0, 3).equals("5 6 7"), "none came");
        x.is(x.copy(p, 0, 0, q, 0, 0, 3), 1);
        x.hold(row(x, q, 0, 3).equals("1 2 3"), "all came");
        x.is(x.copy(p, 0, 3, q, 0, 2, 1), 1);
        x.hold(row(x, q, 0, 3).equals("1 2 4"), "one came");
    }

    @Sentence(of = "Promise 7", says = "BAD (PICTURES);")
    static void copyBad() {
        Run x = new Run();
        int p = x.kinks(1);
        int q = x.kinks(1);
        int[] none = {-1, 2, Integer.MIN_VALUE, Integer.MAX_VALUE};
        for (int other : none) {
            x.no(x.copy(other, 0, 0, q, 0, 0, 1), BAD);
            x.no(x.copy(p, 0, 0, other, 0, 0, 1), BAD);
            x.no(x.copy(p, 99, -1, other, 0, 0, -1), BAD);
        }
        x.is(x.copy(p, 0, 0, q, 0, 0, 1), 1);
        // no other number is BAD
        x.no(x.copy(p, 99, 0, q, 0, 0, 1), BEYOND);
        x.no(x.copy(p, 0, 0, q, 0, 0, -1), BEYOND);
    }

    @Sentence(of = "Promise 7", says = "BEYOND (first CROSSING, then the other); LACKING;")
    static void copyBeyondAndLacking() {
        Run x = new Run();
        int p = x.kinks(2);
        int q = x.kinks(2);
        x.row(p, 1, -1);
        x.row(q, 1, -1);
        int[] none = {-1, 2, Integer.MIN_VALUE, Integer.MAX_VALUE};
        for (int c : none) {
            x.no(x.copy(p, c, 0, q, 0, 0, 1), BEYOND);
            x.no(x.copy(p, c, 0, q, 1, 0, 1), BEYOND);
            x.no(x.copy(p, 0, 0, q, c, 0, 1), BEYOND);
            x.no(x.copy(p, 1, 0, q, c, 0, 1), BEYOND);
        }
        x.no(x.copy(p, 1, 0, q, 0, 0, 1), LACKING);
        x.no(x.copy(p, 0, 0, q, 1, 0, 1), LACKING);
        x.no(x.copy(p, 1, 0, q, 1, 0, 1), LACKING);
        // none comes ahead of what is not there, or below 0
        x.no(x.copy(p, 1, -1, q, 0, 9, 9), LACKING);
        x.no(x.copy(p, 0, 9, q, 1, 0, -1), LACKING);
        x.no(x.copy(p, 1, 0, q, 0, 0, 0), LACKING);
        x.is(x.copy(p, 0, 0, q, 0, 0, 0), 1);
    }

    @Sentence(of = "Promise 7", says = "BEYOND: there are not so many in the one or the other from there on")
    static void copyOfTooMany() {
        Run x = new Run();
        int p = x.rows(new int[] {1, 2, 3, 4}, new int[] {5, 6, 7, 8});
        for (int length = 0; length <= 3; length++) {
            x.row(p, 1, 4);
            x.row(p, 1, length);
            for (int at = 0; at <= length; at++) {
                x.is(x.copy(p, 0, 0, p, 1, at, length - at), 1);
                x.no(x.copy(p, 0, 0, p, 1, at, length - at + 1), BEYOND);
                x.is(x.copy(p, 1, at, p, 0, 0, length - at), 1);
                x.no(x.copy(p, 1, at, p, 0, 0, length - at + 1), BEYOND);
            }
        }
        x.no(x.copy(p, 0, 0, p, 0, 0, 5), BEYOND);
        // sums that wrap
        for (int far : new int[] {Integer.MAX_VALUE - 1, Integer.MAX_VALUE}) {
            x.no(x.copy(p, 0, 2, p, 0, 2, far), BEYOND);
            x.no(x.copy(p, 0, far, p, 0, 2, far), BEYOND);
            x.no(x.copy(p, 0, 2, p, 0, far, 2), BEYOND);
        }
    }

    @Sentence(of = "Promise 7", says = "(with n 0: it begins behind its end),")
    static void copyOfNone() {
        Run x = new Run();
        int p = x.rows(new int[] {1, 2, 3, 4}, new int[] {5, 6, 7, 8});
        for (int length = 0; length <= 4; length++) {
            x.row(p, 1, length);
            for (int at = 0; at <= 6; at++) {
                int from = x.copy(p, 1, at, p, 0, 0, 0);
                if (at <= length) {
                    x.is(from, 1);
                    x.is(x.copy(p, 0, 0, p, 1, at, 0), 1);
                } else {
                    x.no(from, BEYOND);
                    x.no(x.copy(p, 0, 0, p, 1, at, 0), BEYOND);
                }
            }
            x.row(p, 1, 4);
        }
        x.no(x.copy(p, 0, Integer.MAX_VALUE, p, 0, 0, 0), BEYOND);
        x.no(x.copy(p, 0, 0, p, 0, Integer.MAX_VALUE, 0), BEYOND);
    }

    @Sentence(of = "Promise 7", says = "a number is below 0.")
    static void copyBelow() {
        Run x = new Run();
        int p = x.rows(new int[] {1, 2, 3, 4}, new int[] {5, 6, 7, 8});
        int[] below = {-1, -2, Integer.MIN_VALUE, Integer.MIN_VALUE + 1};
        for (int v : below) {
            x.no(x.copy(p, 0, v, p, 1, 0, 1), BEYOND);
            x.no(x.copy(p, 0, 0, p, 1, v, 1), BEYOND);
            x.no(x.copy(p, 0, 0, p, 1, 0, v), BEYOND);
            x.no(x.copy(p, 0, v, p, 1, 0, 0), BEYOND);
            x.no(x.copy(p, 0, 0, p, 1, v, 0), BEYOND);
            x.no(x.copy(p, 0, 4, p, 1, 4, v), BEYOND);
        }
        x.is(x.copy(p, 0, 0, p, 1, 0, 0), 1);
        x.looks(p, 0, "1 2 3 4", "5 6 7 8");
    }

    @Sentence(of = "Promise 8", says = "LOOSE circles (0 .. 9): how many there were.")
    static void looseBefore() {
        Run x = new Run();
        int p = x.picture();
        int[] numbers = {0, 1, 9, 8, 9, 0};
        int before = 0;
        for (int n : numbers) {
            x.is(x.loose(p, n), before);
            x.is(x.told(p, 1), n);
            before = n;
        }
        int q = x.openOne();
        x.is(x.loose(q, 9), 0);
        x.is(x.told(q, 1), 9);
        x.is(x.told(p, 1), 0);
    }

    @Sentence(of = "Promise 8", says = "BAD.")
    static void looseBad() {
        Run x = new Run();
        int p = x.picture();
        x.no(x.loose(p, -1), BAD);
        x.is(x.loose(p, 0), 0);
        x.is(x.loose(p, 9), 0);
        x.no(x.loose(p, 10), BAD);
        x.no(x.loose(1, 1), BAD);
        x.no(x.loose(-1, 1), BAD);
        for (int far : Run.FAR) {
            x.no(x.loose(p, far), BAD);
            x.no(x.loose(far, 1), BAD);
        }
        x.is(x.told(p, 1), 9);
    }

    @Sentence(of = "Promise 9", says = "Why a PICTURE is OPEN; 0: it is WHOLE.")
    static void openWhy() {
        Run x = new Run();
        int p = x.kinks(2);
        x.is(x.open(p), 0);
        x.row(p, 1, 3);
        x.is(x.open(p), 1);
        x.row(p, 1, 4);
        x.is(x.open(p), 2);
        x.put(p, 1, 3, 2);
        x.is(x.open(p), 3);
        x.put(p, 1, 3, 0);
        x.is(x.open(p), 0);
        x.crossing(p, 8, 9, 8, 9);
        x.is(x.open(p), 4);
        x.is(x.open(x.picture()), 0);
        x.is(x.open(x.circles(9)), 0);
    }

    @Sentence(of = "Promise 9", says = "BAD.")
    static void openBad() {
        Run x = new Run();
        x.no(x.open(0), BAD);
        int p = x.picture();
        x.is(x.open(p), 0);
        x.no(x.open(-1), BAD);
        x.no(x.open(1), BAD);
        for (int far : Run.FAR) {
            x.no(x.open(far), BAD);
        }
    }

    @Sentence(of = "Promise 10", says = "The least PLACE of what made the latest open() that was not BAD 1, 2, 3 (any END of such"
            + " an ARC);")
    static void whereItIsOpen() {
        Run x = new Run();
        for (int c = 0; c < 3; c++) {
            int p = x.parts(3);
            // 3: an ARC that stands at PLACE c and at the last one: the least of them
            x.put(p, 2, 0, 2 * c);
            x.is(x.open(p), 3 - (c == 2 ? 3 : 0));
            x.is(x.where(), c == 2 ? NONE : c);
            // 2: at c, and perhaps behind it
            x.put(p, 2, 3, -1);
            x.put(p, c, 1, -1);
            x.is(x.open(p), 2);
            x.is(x.where(), c);
            // 1: a short ROW at c, and none behind it
            x.row(p, 2, -1);
            x.row(p, c, 3);
            x.is(x.open(p), 1);
            x.is(x.where(), c);
            x.no(x.open(77), BAD);
            x.is(x.where(), c);
        }
        int big = x.parts(40);
        x.put(big, 39, 0, 79);
        x.is(x.open(big), 3);
        x.is(x.where(), 39);
        // at END 0 alone, and at the last END alone
        x.is(x.open(x.rows(new int[] {7, 1, 1, 2}, new int[] {2, 3, 3, 8})), 3);
        x.is(x.where(), 0);
        x.is(x.open(x.rows(new int[] {0, 0, 1, 1}, new int[] {7, 3, 3, 8})), 3);
        x.is(x.where(), 1);
    }

    @Sentence(of = "Promise 10", says = "else NONE.")
    static void whereNone() {
        Run x = new Run();
        x.is(x.where(), NONE);
        x.no(x.open(0), BAD);
        x.is(x.where(), NONE);
        int open = x.openOne();
        int whole = x.kinks(1);
        int notFlat = x.rows(new int[] {0, 1, 0, 1});
        x.is(x.open(open), 3);
        x.is(x.where(), 0);
        x.is(x.open(whole), 0);
        x.is(x.where(), NONE);
        x.open(open);
        x.is(x.where(), 0);
        x.is(x.open(notFlat), 4);
        x.is(x.where(), NONE);
        x.open(open);
        x.told(whole, 3);
        x.mirror(whole);
        x.no(x.told(notFlat, 3), OPEN);
        x.is(x.where(), 0);
    }

    @Sentence(of = "Promise 11", says = "Of a PICTURE: what = 0 CROSSINGS, 1 LOOSE circles, 2 PIECES (with LOOSE ones), 3"
            + " REGIONS, 4 PARTS, 5 WRITHE.")
    static void toldOfPictures() {
        Run x = new Run();
        int two = x.parts(2);
        x.loose(two, 9);
        int[] pictures = {x.picture(), x.circles(9), x.kinks(1), two, x.braid(2), x.kinks(40)};
        int[][] due = {{0, 0, 0, 0, 0, 0}, {0, 9, 9, 0, 0, 0}, {1, 0, 1, 3, 1, -1}, {2, 9, 11, 6, 2, -2},
            {2, 0, 2, 4, 1, -2}, {40, 0, 1, 42, 1, -40}};
        for (int k = 0; k < pictures.length; k++) {
            for (int what = 0; what < 6; what++) {
                x.is(x.told(pictures[k], what), due[k][what]);
            }
        }
    }

    @Sentence(of = "Promise 11", says = "BAD; OPEN (2 to 5).")
    static void toldRefused() {
        Run x = new Run();
        int p = x.openOne();
        x.loose(p, 3);
        x.no(x.told(p, -1), BAD);
        x.is(x.told(p, 0), 1);
        x.is(x.told(p, 1), 3);
        for (int what = 2; what <= 5; what++) {
            x.no(x.told(p, what), OPEN);
        }
        x.no(x.told(p, 6), BAD);
        x.no(x.told(-1, 0), BAD);
        x.no(x.told(1, 2), BAD);
        for (int far : Run.FAR) {
            x.no(x.told(p, far), BAD);
            x.no(x.told(far, 0), BAD);
        }
    }

    @Sentence(of = "Promise 12", says = "Its CROSSINGS are all changed (as by CHANGE): 1.")
    static void mirrored() {
        Run x = new Run();
        int p = x.rows(Run.TREFOIL);
        x.loose(p, 2);
        x.is(x.mirror(p), 1);
        x.looks(p, 2, "0 3 5 2", "4 1 3 0", "2 5 1 4");
        x.is(x.mirror(x.picture()), 1);
        x.is(x.mirror(x.circles(9)), 1);
        int big = x.parts(40);
        x.is(x.mirror(big), 1);
        x.is(x.end(big, 0, 0), 1);
        x.is(x.end(big, 39, 0), 79);
        x.is(x.end(big, 39, 3), 78);
    }

    @Sentence(of = "Promise 12", says = "BAD; OPEN.")
    static void mirrorRefused() {
        Run x = new Run();
        x.no(x.mirror(0), BAD);
        int p = x.kinks(2);
        x.no(x.mirror(-1), BAD);
        x.no(x.mirror(1), BAD);
        x.row(p, 1, 3);
        x.no(x.mirror(p), OPEN);
        x.row(p, 1, 4);
        x.no(x.mirror(p), OPEN);
        x.put(p, 1, 3, 0);
        x.is(x.mirror(p), 1);
        x.no(x.mirror(x.rows(new int[] {0, 1, 0, 1})), OPEN);
    }

    @Sentence(of = "Promise 13", says = "It is seen from behind (each ROW becomes e1 e0 e3 e2): 1.")
    static void turned() {
        Run x = new Run();
        int p = x.rows(Run.TREFOIL);
        x.loose(p, 2);
        x.is(x.turn(p), 1);
        x.looks(p, 2, "0 2 5 3", "4 0 3 1", "2 4 1 5");
        x.is(x.open(p), 0);
        x.is(x.turn(x.picture()), 1);
        int big = x.rows(new int[] {0, 1, 2, 3}, new int[] {0, 3, 2, 1});
        x.is(x.turn(big), 1);
        x.looks(big, 0, "1 0 3 2", "3 0 1 2");
        int most = x.kinks(40);
        x.is(x.turn(most), 1);
        x.is(x.end(most, 0, 0), 1);
        x.is(x.end(most, 39, 0), 79);
        x.is(x.end(most, 39, 2), 0);
    }

    @Sentence(of = "Promise 13", says = "BAD; OPEN.")
    static void turnRefused() {
        Run x = new Run();
        x.no(x.turn(0), BAD);
        int p = x.kinks(2);
        x.no(x.turn(-1), BAD);
        x.no(x.turn(1), BAD);
        x.put(p, 0, 0, -1);
        x.no(x.turn(p), OPEN);
        x.put(p, 0, 0, 0);
        x.is(x.turn(p), 1);
    }

    @Sentence(of = "Promise 14", says = "Two PICTURES (perhaps one twice) at ENDS a of p, b of q: new:")
    static void joinOfTwo() {
        Run x = new Run();
        int p = x.kinks(1);
        int q = x.rows(Run.TREFOIL);
        x.is(x.join(p, 0, q, 11), 2);
        x.is(x.told(2, 0), 4);
        x.is(x.join(p, 3, p, 0), 3);
        x.looks(3, 0, "4 1 1 0", "0 3 3 4");
        x.is(x.join(q, 0, p, 3), 4);
        x.looks(p, 0, "0 1 1 0");
        x.looks(q, 0, "2 0 3 5", "0 4 1 3", "4 2 5 1");
        x.no(x.undo(3), NOT);
        for (int e = 0; e < 4; e++) {
            for (int f = 0; f < 4; f++) {
                int j = x.join(p, e, p, f);
                x.is(x.open(j), 0);
                x.is(x.told(j, 2), 1);
            }
        }
    }

    @Sentence(of = "Promise 14", says = "p's CROSSINGS with their ARCS, then q's with the least free ones, in the order in which"
            + " they are met;")
    static void joinArcs() {
        Run x = new Run();
        // q's arcs 50 and 3 are met so, and become 6 and 7
        int p = x.rows(Run.TREFOIL);
        int q = x.rows(new int[] {50, 3, 3, 50});
        int j = x.join(p, 0, q, 3);
        x.looks(j, 0, "2 0 3 5", "0 4 1 3", "4 8 5 1", "8 7 7 2");
        // p has 99 and 0: q's become 1, 2, and the one more is 3
        int r = x.rows(new int[] {99, 0, 0, 99});
        j = x.join(r, 0, q, 0);
        x.looks(j, 0, "99 0 0 3", "99 2 2 3");
        // q's become 62 to 65
        j = x.join(x.kinks(31), 0, x.kinks(2), 0);
        int[] due = {0, 63, 63, 64, 64, 65, 65, 66};
        for (int e = 0; e < 8; e++) {
            x.is(x.end(j, 31 + e / 4, e % 4), due[e]);
        }
        int most = x.parts(39);
        j = x.join(most, 0, q, 1);
        x.is(x.end(j, 39, 0), 78);
        x.is(x.end(j, 39, 1), 0);
        x.is(x.end(j, 39, 2), 80);
        x.is(x.end(j, 39, 3), 78);
        x.is(x.end(j, 0, 3), 80);
        x.is(x.open(j), 0);
    }

    @Sentence(of = "Promise 14", says = "b gets a's ARC, the OTHER ENDS of both one more, the least free (b's OTHER END has its"
            + " own still);")
    static void joinEnds() {
        Run x = new Run();
        int p = x.rows(new int[] {1, 3, 3, 1});
        int q = x.rows(new int[] {9, 5, 5, 9});
        // q's arcs become 0 and 2; b's OTHER END has 0 (or 2) still, so the one more is 4
        int j = x.join(p, 0, q, 0);
        x.looks(j, 0, "1 3 3 4", "1 2 2 4");
        j = x.join(p, 3, q, 0);
        x.looks(j, 0, "4 3 3 1", "1 2 2 4");
        j = x.join(p, 1, q, 2);
        x.looks(j, 0, "1 3 4 1", "0 4 3 0");
        j = x.join(p, 2, q, 3);
        x.looks(j, 0, "1 4 3 1", "4 2 2 3");
    }

    @Sentence(of = "Promise 14", says = "LOOSE circles of both.")
    static void joinCircles() {
        Run x = new Run();
        int p = x.kinks(1);
        int q = x.kinks(1);
        x.is(x.told(x.join(p, 0, q, 0), 1), 0);
        x.loose(p, 4);
        x.is(x.told(x.join(p, 0, q, 0), 1), 4);
        x.is(x.told(x.join(p, 0, p, 0), 1), 8);
        x.loose(q, 5);
        x.is(x.told(x.join(p, 0, q, 0), 1), 9);
        x.loose(q, 6);
        x.no(x.join(p, 0, q, 0), MANY);
        x.no(x.join(q, 0, p, 0), MANY);
    }

    @Sentence(of = "Promise 14", says = "BAD; FULL; OPEN; NOT: no such END; MANY.")
    static void joinRefused() {
        Run x = new Run();
        int p = x.kinks(20);
        int q = x.kinks(21);
        int k = x.kinks(1);
        int c = x.circles(1);
        int open = x.openOne();
        int most = x.join(p, 79, p, 0);
        x.is(x.told(most, 0), 40);
        x.no(x.join(p, 0, q, 0), MANY);
        x.no(x.join(q, 0, p, 0), MANY);
        x.no(x.join(p, 80, q, 0), NOT);
        x.no(x.join(p, 0, q, 84), NOT);
        x.no(x.join(p, -1, q, 0), NOT);
        x.no(x.join(p, 0, q, -1), NOT);
        x.no(x.join(c, 0, k, 0), NOT);
        x.no(x.join(k, 4, k, 0), NOT);
        x.no(x.join(open, 99, k, 0), OPEN);
        x.no(x.join(k, 99, open, 0), OPEN);
        x.no(x.join(-1, 0, open, 0), BAD);
        x.no(x.join(open, 0, 6, 0), BAD);
        for (int far : Run.FAR) {
            x.no(x.join(k, far, k, 0), NOT);
            x.no(x.join(k, 0, k, far), NOT);
        }
        x.fillPictures(23);
        x.is(x.join(k, 3, k, 3), 23);
        x.no(x.join(k, 3, k, 3), FULL);
        x.no(x.join(open, 3, k, 99), FULL);
        x.no(x.join(open, 3, 24, 99), BAD);
        x.no(x.join(24, 3, k, 99), BAD);
    }

    @Sentence(of = "Promise 15", says = "A PICTURE as another one: new.")
    static void twinOfAny() {
        Run x = new Run();
        int p = x.rows(new int[] {9, -1, 99, 0}, new int[] {1, 2, 3, 4}, new int[] {5, 6, 7, 8});
        x.row(p, 1, -1);
        x.row(p, 2, 1);
        x.loose(p, 9);
        x.is(x.twin(p), 1);
        x.is(x.told(1, 0), 3);
        x.is(x.told(1, 1), 9);
        x.is(x.end(1, 0, 1), -1);
        x.no(x.end(1, 1, 0), LACKING);
        x.is(x.end(1, 2, 0), 5);
        x.no(x.end(1, 2, 1), BEYOND);
        x.put(1, 0, 0, 55);
        x.is(x.end(p, 0, 0), 9);
        int k = x.kinks(1);
        x.mirror(k);
        x.is(x.twin(k), 3);
        x.no(x.undo(3), NOT);
        x.is(x.undo(k), 0);
        x.is(x.told(x.twin(x.picture()), 0), 0);
    }

    @Sentence(of = "Promise 15", says = "BAD; FULL.")
    static void twinRefused() {
        Run x = new Run();
        x.no(x.twin(0), BAD);
        int p = x.kinks(1);
        x.no(x.twin(-1), BAD);
        x.no(x.twin(1), BAD);
        x.fillPictures(23);
        x.is(x.twin(p), 23);
        x.no(x.twin(p), FULL);
        x.no(x.twin(24), BAD);
        x.no(x.twin(-1), BAD);
    }

    @Sentence(of = "Promise 16", says = "All of a PICTURE is as ahead of the latest does(), undoes(), mirror(), turn() on it that"
            + " was not refused")
    static void undoOfEach() {
        Run x = new Run();
        int p = x.kinks(2);
        x.loose(p, 9);
        long before = x.digest();
        int circle = x.move(Run.TWIST, -1, 0, 0);
        int kink = x.move(Run.TWIST, 1, 0, 0);
        int smooth = x.move(Run.SMOOTH, 0, 0, 0);
        int none = x.move(Run.CHANGE, 9, 0, 0);
        for (int k = 0; k < 5; k++) {
            switch (k) {
                case 0: x.is(x.does(p, circle), 1); break;
                case 1: x.is(x.undoes(p, kink), 1); break;
                case 2: x.is(x.mirror(p), 1); break;
                case 3: x.is(x.turn(p), 1); break;
                default: x.is(x.does(p, smooth), 1); break;
            }
            x.no(x.does(p, none), NOT);
            x.no(x.undoes(p, none), NOT);
            x.is(x.may(p, kink), 1);
            x.hold(x.digest() != before, "it is changed");
            x.is(x.undo(p), 0);
            x.is(x.digest(), before);
        }
        // 40 CROSSINGS and back
        int big = x.kinks(40);
        before = x.digest();
        x.does(big, smooth);
        x.does(big, smooth);
        x.is(x.told(big, 0), 38);
        x.is(x.undo(big), 1);
        x.is(x.undo(big), 0);
        x.is(x.digest(), before);
    }

    @Sentence(of = "Promise 16", says = "(the latest 10 since it was made,")
    static void undoOfTheLatest10() {
        for (int n = 9; n <= 12; n++) {
            Run x = new Run();
            int p = x.kinks(1);
            int twist = x.move(Run.TWIST, 0, 0, 0);
            for (int k = 0; k < n; k++) {
                x.is(k % 3 == 2 ? x.mirror(p) : x.does(p, twist), 1);
            }
            for (int k = Math.min(n, 10) - 1; k >= 0; k--) {
                x.is(x.undo(p), k);
            }
            x.no(x.undo(p), NOT);
            // what is left is as ahead of the tenth from the end: none of nine and ten, one twist of eleven, two of twelve
            x.is(x.told(p, 0), 1 + Math.max(0, n - 10));
            x.is(x.mirror(p), 1);
            x.is(x.undo(p), 0);
        }
    }

    @Sentence(of = "Promise 16", says = "or told anew by crossing(), row(), put(), copy() to it, loose() that were not refused)")
    static void undoOfWhatIsToldAnew() {
        Run x = new Run();
        int p = x.kinks(2);
        int q = x.kinks(2);
        x.mirror(p);
        x.no(x.crossing(p, 0, 0, 0, 100), BAD);
        x.no(x.row(p, 2, 4), BEYOND);
        x.no(x.put(p, 0, 4, 0), BEYOND);
        x.no(x.copy(q, 0, 0, p, 0, 1, 4), BEYOND);
        x.no(x.loose(p, 10), BAD);
        x.is(x.copy(p, 0, 0, q, 0, 0, 4), 1);
        x.is(x.undo(p), 0);
        for (int k = 0; k < 5; k++) {
            x.is(x.mirror(p), 1);
            x.is(x.mirror(p), 1);
            switch (k) {
                case 0: x.is(x.loose(p, 0), 0); break;
                case 1: x.is(x.row(p, 0, 4), 1); break;
                case 2: x.is(x.put(p, 0, 0, x.end(p, 0, 0)), 1); break;
                case 3: x.is(x.copy(p, 0, 0, p, 0, 0, 0), 1); break;
                default: x.is(x.crossing(p, 4, 5, 5, 4), 2); break;
            }
            x.no(x.undo(p), NOT);
        }
        x.is(x.mirror(p), 1);
        x.is(x.undo(p), 0);
    }

    @Sentence(of = "Promise 16", says = ": how many are left.")
    static void undoTellsWhatIsLeft() {
        Run x = new Run();
        int p = x.kinks(1);
        int q = x.kinks(1);
        for (int k = 0; k < 3; k++) {
            x.mirror(p);
            x.turn(q);
        }
        x.is(x.undo(p), 2);
        x.is(x.undo(q), 2);
        x.is(x.undo(p), 1);
        x.turn(p);
        x.is(x.undo(p), 1);
        x.is(x.undo(p), 0);
        x.is(x.undo(q), 1);
    }

    @Sentence(of = "Promise 16", says = "BAD; NOT: none.")
    static void undoRefused() {
        Run x = new Run();
        x.no(x.undo(0), BAD);
        int p = x.kinks(1);
        x.no(x.undo(p), NOT);
        x.mirror(p);
        x.is(x.undo(p), 0);
        x.no(x.undo(p), NOT);
        x.no(x.undo(-1), BAD);
        x.no(x.undo(1), BAD);
        for (int far : Run.FAR) {
            x.no(x.undo(far), BAD);
        }
        x.no(x.undo(x.openOne()), NOT);
    }
}
