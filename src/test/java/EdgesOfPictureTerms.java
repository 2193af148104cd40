/** What the document says ahead of its promises: how long an object is used, and part 1 of the terms, PICTURES. */
final class EdgesOfPictureTerms {
    private static final int BAD = Run.BAD, FULL = Run.FULL, LACKING = Run.LACKING, BEYOND = Run.BEYOND;
    private static final int NOT = Run.NOT, MANY = Run.MANY;

    private EdgesOfPictureTerms() {
    }

    @Sentence(of = "What it is", says = "An object is used for at most 512 calls after it has been made")
    static void calls511And512AreAnswered() {
        for (int call = 0; call < 6; call++) {
            Run x = new Run();
            int p = x.kinks(3);
            x.waste(510);
            x.hold(x.told(p, 0) == 3, "call 511 is answered");
            switch (call) {
                case 0: x.hold(x.picture() == 1, "call 512 is answered"); break;
                case 1: x.hold(x.crossing(p, 7, 8, 8, 7) == 3, "call 512 is answered"); break;
                case 2: x.hold(x.type(-5) == 1, "call 512 is answered"); break;
                case 3: x.hold(x.search(p, 1) == 1, "call 512 is answered"); break;
                case 4: x.hold(x.move(5, 0, 0, 0) == 0, "call 512 is answered"); break;
                default: x.hold(x.polynomial(p) == 1, "call 512 is answered"); break;
            }
            x.hold(x.calls() == 512, "that were 512 calls");
        }
    }

    @Sentence(of = "What it is", says = "what later calls answer is free.")
    static void laterCallsAnswerSomething() {
        Run x = new Run();
        x.goPastTheLast();
        int p = x.kinks(3);
        x.waste(512);
        for (int k = 0; k < 40; k++) {
            int q = x.twin(p);
            x.crossing(p, 1, 2, 3, 4);
            x.type(k);
            x.move(0, k, 0, 0);
            x.does(q, x.count(1) - 1);
            x.search(q, 5);
            x.fewer();
            x.name(q);
            x.undo(q);
            x.digest();
        }
        x.hold(x.calls() > 512 + 400, "none threw");
    }

    @Sentence(of = "Terms 1", says = "PICTURES, 24 at most, numbered from 0 on,")
    static void picturesUpTo24() {
        for (int maker = 0; maker < 6; maker++) {
            Run x = new Run();
            int p = x.kinks(1);
            x.search(p, 0);
            x.fillPictures(22);
            x.is(make(x, maker, p), 22);
            x.is(make(x, maker, p), 23);
            x.no(make(x, maker, p), FULL);
            x.is(x.count(0), 24);
            x.no(x.open(-1), BAD);
            x.is(x.open(0), 0);
            x.is(x.open(23), 0);
            x.no(x.open(24), BAD);
        }
    }

    private static int make(Run x, int maker, int p) {
        switch (maker) {
            case 0: return x.picture();
            case 1: return x.twin(p);
            case 2: return x.join(p, 0, p, 0);
            case 3: return x.knot(-2);
            case 4: return x.fewer();
            default: return x.check(p);
        }
    }

    @Sentence(of = "Terms 1", says = "have LOOSE circles (0 .. 9)")
    static void looseCirclesUpTo9() {
        Run x = new Run();
        int p = x.kinks(1);
        x.no(x.loose(p, -1), BAD);
        x.is(x.loose(p, 0), 0);
        x.is(x.loose(p, 1), 0);
        x.is(x.loose(p, 9), 1);
        x.no(x.loose(p, 10), BAD);
        x.is(x.told(p, 1), 9);
        x.is(x.loose(p, 8), 9);
        x.is(x.does(p, Run.SMOOTH, 0, 0, 0), 1);
        x.is(x.told(p, 1), 9);
    }

    @Sentence(of = "Terms 1", says = "and CROSSINGS, 40 at most, at PLACES from 0 on.")
    static void crossingsUpTo40() {
        Run x = new Run();
        int p = x.picture();
        x.no(x.end(p, 0, 0), BEYOND);
        for (int c = 0; c < 40; c++) {
            x.is(x.crossing(p, c, c, 99 - c, 99 - c), c);
        }
        x.no(x.crossing(p, 0, 0, 0, 0), FULL);
        x.no(x.end(p, -1, 0), BEYOND);
        x.is(x.end(p, 0, 2), 99);
        x.is(x.end(p, 39, 2), 60);
        x.no(x.end(p, 40, 2), BEYOND);
        x.is(x.told(p, 0), 40);
        x.is(x.open(p), 0);
    }

    @Sentence(of = "Terms 1", says = "A CROSSING has a ROW of ENDS (4; it may be shorter, or none)")
    static void rowsOf4ShorterOrNone() {
        Run x = new Run();
        int p = x.rows(new int[] {5, 6, 7, 8});
        for (int n = 4; n >= 0; n--) {
            x.is(x.row(p, 0, n), 1);
            for (int i = 0; i < 4; i++) {
                if (i < n) {
                    x.is(x.end(p, 0, i), 5 + i);
                } else {
                    x.no(x.end(p, 0, i), BEYOND);
                }
            }
        }
        x.is(x.row(p, 0, -1), 1);
        x.no(x.end(p, 0, 0), LACKING);
        x.no(x.row(p, 0, 5), BAD);
        x.no(x.row(p, 0, -2), BAD);
    }

    @Sentence(of = "Terms 1", says = ", counted round it against the clock: ENDS 0 and 2 are of the strand that goes UNDER,"
            + " 1 and 3 OVER.")
    static void endsGoRound() {
        Run x = new Run();
        // from END 0 by arc 0 to END 3 (over), from END 1 by arc 1 to END 2 (under)
        int p = x.kinks(1);
        x.is(x.gauss(p), 4);
        int[] first = {2, 0, -1, -2};
        // the mirror's: from END 0 to END 1 (over), from END 3 to END 2 (under), and the SIGN is 1
        int q = x.rows(new int[] {1, 1, 0, 0});
        for (int k = 0; k < 4; k++) {
            x.is(x.item(k), first[k]);
        }
        x.is(x.gauss(q), 4);
        int[] second = {3, 1, -1, -2};
        for (int k = 0; k < 4; k++) {
            x.is(x.item(k), second[k]);
        }
        int t = x.rows(Run.TREFOIL);
        x.is(x.open(t), 0);
        int withTheClock = x.rows(new int[] {2, 5, 3, 0}, new int[] {0, 4, 1, 3}, new int[] {4, 2, 5, 1});
        x.is(x.open(withTheClock), 4);
    }

    @Sentence(of = "Terms 1", says = "Each has the number of an ARC (0 .. 99; -1: it is missing).")
    static void arcsUpTo99() {
        Run x = new Run();
        int p = x.rows(new int[] {0, 99, 99, 0});
        x.is(x.open(p), 0);
        x.no(x.put(p, 0, 3, -2), BAD);
        x.is(x.put(p, 0, 3, -1), 1);
        x.is(x.open(p), 2);
        x.is(x.put(p, 0, 3, 0), 1);
        x.is(x.open(p), 0);
        x.is(x.put(p, 0, 3, 99), 1);
        x.is(x.open(p), 3);
        x.no(x.put(p, 0, 3, 100), BAD);
        x.is(x.end(p, 0, 3), 99);
    }

    @Sentence(of = "Terms 1", says = "THE END 4 c + i is ENDS i of the CROSSING at PLACE c;")
    static void endsAreNumbered() {
        Run x = new Run();
        int p = x.parts(40);
        x.no(x.pieceOf(p, -1), BEYOND);
        x.is(x.pieceOf(p, 0), 0);
        x.is(x.pieceOf(p, 3), 0);
        x.is(x.pieceOf(p, 4), 1);
        x.is(x.pieceOf(p, 155), 38);
        x.is(x.pieceOf(p, 156), 39);
        x.is(x.pieceOf(p, 159), 39);
        x.no(x.pieceOf(p, 160), BEYOND);
        // a kink of the CROSSING at PLACE 1 lies at its ENDS 1 and 2, so at END 5
        x.no(x.undoes(p, Run.TWIST, 4, 0, 0), NOT);
        x.is(x.undoes(p, Run.TWIST, 5, 0, 0), 1);
        x.is(x.end(p, 1, 0), 4);
    }

    @Sentence(of = "Terms 1", says = "i + 1, i + 2, i + 3 is meant round (of 4).")
    static void endsAreMeantRound() {
        Run x = new Run();
        int p = x.rows(new int[] {5, 0, 1, 5}, new int[] {6, 1, 0, 6});
        x.is(x.open(p), 0);
        x.is(x.undoes(p, Run.TWIST, 3, 0, 0), 1);
        x.looks(p, 0, "6 0 0 6");
        x.undo(p);
        x.is(x.undoes(p, Run.TWIST, 7, 0, 0), 1);
        x.looks(p, 0, "5 1 1 5");
        x.undo(p);
        x.no(x.undoes(p, Run.TWIST, 0, 0, 0), NOT);
        x.no(x.undoes(p, Run.TWIST, 4, 0, 0), NOT);
    }

    @Sentence(of = "Terms 1", says = "A PICTURE is WHOLE (open() 0), or OPEN by the first of these:")
    static void openByTheFirst() {
        Run x = new Run();
        int p = x.rows(new int[] {4, 5, 4, 5}, new int[] {0, 1, 1, 0});
        x.row(p, 1, 3);
        x.put(p, 0, 0, -1);
        x.put(p, 1, 1, 4);
        x.is(x.open(p), 1);
        x.row(p, 1, 4);
        x.is(x.open(p), 2);
        x.put(p, 1, 3, 0);
        x.is(x.open(p), 2);
        x.put(p, 0, 0, 4);
        x.is(x.open(p), 3);
        x.put(p, 1, 1, 1);
        x.is(x.open(p), 4);
        x.put(p, 0, 1, 4);
        x.put(p, 0, 2, 5);
        x.is(x.open(p), 0);
        x.is(x.open(x.picture()), 0);
    }

    @Sentence(of = "Terms 1", says = "1 a ROW is none or short,")
    static void openByAShortRow() {
        Run x = new Run();
        for (int n = -1; n <= 4; n++) {
            int p = x.parts(2);
            x.row(p, 1, n);
            x.is(x.open(p), n < 4 ? 1 : 0);
        }
        int q = x.parts(2);
        x.row(q, 0, 3);
        x.row(q, 0, 4);
        x.is(x.open(q), 2);
    }

    @Sentence(of = "Terms 1", says = "2 an ARC is missing,")
    static void openByAMissingArc() {
        Run x = new Run();
        int p = x.rows(new int[] {0, 0, 0, 0}, new int[] {1, 2, 2, 1});
        x.is(x.open(p), 3);
        for (int e = 0; e < 8; e++) {
            int was = x.end(p, e / 4, e % 4);
            x.put(p, e / 4, e % 4, -1);
            x.is(x.open(p), 2);
            x.put(p, e / 4, e % 4, was);
        }
        x.is(x.open(p), 3);
    }

    @Sentence(of = "Terms 1", says = "3 an ARC stands at some other number of ENDS than two,")
    static void openByAnArcNotAtTwo() {
        Run x = new Run();
        x.is(x.open(x.rows(new int[] {0, 1, 1, 2})), 3);
        x.is(x.open(x.rows(new int[] {0, 1, 1, 0})), 0);
        x.is(x.open(x.rows(new int[] {0, 0, 0, 1}, new int[] {1, 1, 2, 2})), 3);
        x.is(x.open(x.rows(new int[] {0, 0, 0, 0})), 3);
        x.is(x.open(x.rows(new int[] {0, 0, 1, 1}, new int[] {2, 2, 3, 3})), 0);
        x.is(x.open(x.rows(new int[] {0, 0, 1, 1}, new int[] {1, 2, 2, 1})), 3);
    }

    @Sentence(of = "Terms 1", says = "4 it is not FLAT.")
    static void openByNotBeingFlat() {
        Run x = new Run();
        x.is(x.open(x.rows(new int[] {4, 5, 4, 5})), 4);
        x.is(x.open(x.rows(new int[] {4, 4, 5, 5})), 0);
        x.is(x.open(x.rows(new int[] {4, 5, 5, 4})), 0);
        x.is(x.open(x.rows(new int[] {0, 1, 2, 3}, new int[] {0, 1, 2, 3})), 4);
        x.is(x.open(x.rows(new int[] {0, 1, 2, 3}, new int[] {0, 3, 2, 1})), 0);
    }

    @Sentence(of = "Terms 1", says = "Of END e the OTHER one is that with its ARC.")
    static void otherEnds() {
        Run x = new Run();
        int p = x.kinks(2);
        x.is(x.does(p, Run.TWIST, 0, 0, 0), 1);
        x.looks(p, 0, "0 1 1 2", "2 3 3 5", "0 4 4 5");
        x.undo(p);
        x.is(x.does(p, Run.TWIST, 7, 0, 0), 1);
        x.looks(p, 0, "5 1 1 2", "2 3 3 0", "0 4 4 5");
        x.undo(p);
        x.is(x.does(p, Run.TWIST, 1, 0, 0), 1);
        x.looks(p, 0, "0 1 5 2", "2 3 3 0", "1 4 4 5");
    }

    @Sentence(of = "Terms 1", says = "REGIONS: of an END (c, i) the next one is, with the OTHER one (x, y), (x, y + 3);"
            + " those that come round are a REGION.")
    static void regions() {
        Run x = new Run();
        int t = x.rows(Run.TREFOIL);
        x.is(x.told(t, 3), 5);
        for (int b = 0; b < 12; b++) {
            int answer = x.may(t, Run.POKE, 0, b, 0);
            if (b == 4 || b == 8) {
                x.is(answer, 1);
            } else {
                x.no(answer, NOT);
            }
        }
        // of a kink: END 1 alone, END 3 alone, and 0 with 2
        int k = x.kinks(1);
        x.is(x.told(k, 3), 3);
        x.is(x.may(k, Run.POKE, 0, 2, 0), 1);
        x.is(x.may(k, Run.POKE, 2, 0, 0), 1);
        int[][] apart = {{0, 1}, {0, 3}, {1, 0}, {1, 3}, {2, 3}, {3, 1}};
        for (int[] ends : apart) {
            x.no(x.may(k, Run.POKE, ends[0], ends[1], 0), NOT);
        }
        x.is(x.told(x.picture(), 3), 0);
        x.is(x.told(x.circles(9), 3), 0);
        x.is(x.told(x.parts(2), 3), 6);
    }

    @Sentence(of = "Terms 1", says = "PARTS are CROSSINGS that hang together.")
    static void parts() {
        Run x = new Run();
        x.is(x.told(x.picture(), 4), 0);
        x.is(x.told(x.circles(3), 4), 0);
        x.is(x.told(x.kinks(1), 4), 1);
        x.is(x.told(x.kinks(2), 4), 1);
        int two = x.parts(2);
        x.is(x.told(two, 4), 2);
        x.is(x.told(x.parts(39), 4), 39);
        x.is(x.told(x.parts(40), 4), 40);
        x.is(x.told(x.kinks(40), 4), 1);
        x.is(x.told(x.join(two, 0, two, 7), 4), 3);
        // the first hangs with the last alone
        int round = x.rows(new int[] {0, 1, 1, 2}, new int[] {5, 6, 6, 5}, new int[] {2, 3, 3, 0});
        x.is(x.told(round, 4), 2);
    }

    @Sentence(of = "Terms 1", says = "FLAT: there are as many REGIONS as CROSSINGS and twice the PARTS.")
    static void flat() {
        Run x = new Run();
        x.is(x.open(x.picture()), 0);
        x.is(x.open(x.parts(40)), 0);
        x.is(x.open(x.kinks(40)), 0);
        // of two parts each must be flat, wherever it stands
        x.is(x.open(x.rows(new int[] {0, 1, 1, 0}, new int[] {2, 3, 2, 3})), 4);
        x.is(x.open(x.rows(new int[] {2, 3, 2, 3}, new int[] {0, 1, 1, 0})), 4);
        x.is(x.open(x.rows(new int[] {2, 3, 2, 3}, new int[] {0, 1, 0, 1})), 4);
        x.is(x.open(x.rows(new int[] {2, 3, 3, 2}, new int[] {0, 0, 1, 1})), 0);
        // two that hang together by all four ENDS: 4 REGIONS are due, 2 come
        x.is(x.open(x.rows(new int[] {0, 2, 3, 1}, new int[] {2, 0, 1, 3})), 0);
        x.is(x.open(x.rows(new int[] {0, 2, 3, 1}, new int[] {2, 3, 1, 0})), 4);
    }

    @Sentence(of = "Terms 1", says = "Least free ARCS are the least numbers that no ROW has, in the order told.")
    static void leastFreeArcs() {
        Run x = new Run();
        int p = x.rows(new int[] {1, 3, 3, 1});
        x.is(x.does(p, Run.TWIST, 0, 0, 0), 1);
        x.looks(p, 0, "1 3 3 2", "1 0 0 2");
        x.undo(p);
        x.is(x.does(p, Run.POKE, 0, 2, 0), 1);
        x.looks(p, 0, "1 5 3 2", "4 0 5 1", "3 0 4 2");
        int q = x.rows(new int[] {99, 0, 0, 99});
        x.is(x.does(q, Run.TWIST, 0, 0, 0), 1);
        x.looks(q, 0, "99 0 0 2", "99 1 1 2");
        int[] sizes = {31, 32, 39};
        for (int n : sizes) {
            int k = x.kinks(n);
            x.is(x.does(k, Run.TWIST, 0, 0, 0), 1);
            x.is(x.end(k, n, 1), 2 * n);
            x.is(x.end(k, n, 3), 2 * n + 1);
        }
        // 39 kinks with the arcs 22 .. 99: the least free ones lie below
        int high = x.picture();
        for (int c = 0; c < 39; c++) {
            x.crossing(high, 22 + 2 * c, 23 + 2 * c, 23 + 2 * c, 22 + 2 * ((c + 1) % 39));
        }
        x.is(x.does(high, Run.TWIST, 0, 0, 0), 1);
        x.is(x.end(high, 39, 1), 0);
        x.is(x.end(high, 39, 3), 1);
    }

    @Sentence(of = "Terms 1", says = "TO JOIN ARC y with z: if they are one, there is a LOOSE circle more, else all ENDS with"
            + " z get y.")
    static void joinedArcs() {
        Run x = new Run();
        int p = x.kinks(2);
        x.is(x.does(p, Run.SMOOTH, 0, 0, 0), 1);
        x.looks(p, 0, "0 3 3 0");
        x.undo(p);
        x.is(x.does(p, Run.SMOOTH, 0, 1, 0), 1);
        x.looks(p, 1, "0 3 3 0");
        x.undo(p);
        x.is(x.does(p, Run.SMOOTH, 1, 0, 0), 1);
        x.looks(p, 0, "2 1 1 2");
        int k = x.kinks(1);
        x.is(x.does(k, Run.SMOOTH, 0, 0, 0), 1);
        x.looks(k, 1);
        x.undo(k);
        x.is(x.does(k, Run.SMOOTH, 0, 1, 0), 1);
        x.looks(k, 2);
        x.undo(k);
        x.loose(k, 8);
        x.no(x.does(k, Run.SMOOTH, 0, 1, 0), MANY);
        x.is(x.does(k, Run.SMOOTH, 0, 0, 0), 1);
        x.looks(k, 9);
    }

    @Sentence(of = "Terms 1", says = "What is taken out: CROSSINGS behind it come forward.")
    static void crossingsComeForward() {
        Run x = new Run();
        int p = x.kinks(3);
        x.is(x.does(p, Run.SMOOTH, 0, 1, 0), 1);
        x.looks(p, 1, "0 3 3 4", "4 5 5 0");
        x.undo(p);
        x.is(x.does(p, Run.SMOOTH, 1, 1, 0), 1);
        x.looks(p, 1, "0 1 1 2", "2 5 5 0");
        x.undo(p);
        x.is(x.does(p, Run.SMOOTH, 2, 1, 0), 1);
        x.looks(p, 1, "4 1 1 2", "2 3 3 4");
        int big = x.kinks(40);
        x.is(x.does(big, Run.SMOOTH, 0, 1, 0), 1);
        x.is(x.end(big, 38, 1), 79);
        x.no(x.end(big, 39, 1), BEYOND);
        x.undo(big);
        x.is(x.does(big, Run.SMOOTH, 39, 1, 0), 1);
        x.is(x.end(big, 38, 1), 77);
        x.no(x.end(big, 39, 1), BEYOND);
        x.is(x.crossing(big, 90, 91, 92, 93), 39);
        x.is(x.end(big, 39, 3), 93);
    }

    @Sentence(of = "Terms 1", says = "A new CROSSING comes behind all.")
    static void newCrossingsComeBehind() {
        Run x = new Run();
        int p = x.picture();
        x.is(x.crossing(p, 0, 1, 1, 0), 0);
        x.is(x.crossing(p, 2, 3, 3, 2), 1);
        x.is(x.does(p, Run.TWIST, 0, 0, 0), 1);
        x.looks(p, 0, "0 1 1 5", "2 3 3 2", "0 4 4 5");
        x.is(x.does(p, Run.POKE, 4, 6, 0), 1);
        x.looks(p, 0, "0 1 1 5", "2 9 3 7", "0 4 4 5", "8 6 9 2", "3 6 8 7");
        x.is(x.crossing(p, 90, 91, 91, 90), 5);
    }
}
