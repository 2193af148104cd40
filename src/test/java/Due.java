/** Counts answers that are not the ones due, and ends a test by that. */
final class Due {
    private int wrong;
    private int asked;

    void is(String call, long got, long want) {
        asked++;
        if (got != want) {
            wrong++;
            System.out.println(call + " answered " + got + ", due is " + want);
        }
    }

    void holds(String what, boolean so) {
        is(what, so ? 1 : 0, 1);
    }

    /** One call that is not refused: its answer, and status() behind it. */
    void granted(KnotTable x, String call, long got, long want) {
        is(call, got, want);
        is("status() behind " + call, x.status(), 0);
    }

    /** One call that is refused: its answer, and status() behind it. */
    void refused(KnotTable x, String call, long got, long want) {
        is(call, got, want);
        is("status() behind " + call, x.status(), want);
    }

    int wrong() {
        return wrong;
    }

    void end(String test) {
        System.out.println(test + ": " + asked + " answers, " + wrong + " wrong");
        if (wrong != 0) {
            System.exit(1);
        }
    }
}
