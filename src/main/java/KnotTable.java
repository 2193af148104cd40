import java.util.Arrays;

/** A house for knots and links drawn flat; ../shared/DOC.md says what each call promises. */
public final class KnotTable {
    public static final int NONE = -1, BAD = -2, FULL = -3;

    private static final int LACKING = -11, BEYOND = -12, OPEN = -13, UNFIT = -14, NOT = -15;
    private static final int EMPTY = -16, GREAT = -17, MANY = -18, SPENT = -19;
    private static final int FINDINGS = 9, BEFORE_FINDINGS = -10;

    private static final int MOST_PICTURES = 24, MOST_CROSSINGS = 40, MOST_LOOPS = 9;
    private static final int ENDS = 4 * MOST_CROSSINGS, ARCS = 100;
    private static final int MOST_MOVES = 60, KINDS = 6, MOST_BODIES = 3;
    private static final int MOST_ON_TAPE = 130, MOST_NAMES = 200;
    private static final int MOST_STATES = 100, SEARCH_CROSSINGS = 12, MOST_STEPS = 5000;
    private static final int BRACKET_CROSSINGS = 14, BOOK_CROSSINGS = 10, MOST_WORK = 1000000;
    private static final int[] COLOUR_COUNTS = {3, 5, 7, 11};
    private static final int PARTED_BY_PIECES = 1, PARTED_BY_COLOURS = 2, PARTED_BY_POLYNOMIAL = 6;

    private final Picture[] pictures = new Picture[MOST_PICTURES];
    private final Move[] moves = new Move[MOST_MOVES];
    private final Numbers tape = new Numbers(MOST_ON_TAPE);
    private final Numbers bodies = new Numbers(MOST_BODIES);
    private final Look look = new Look();
    private final Look otherLook = new Look();
    private final Picture draft = new Picture();
    private final Smoothing smoothing = new Smoothing();
    private final Laurent result = new Laurent();
    private final Laurent mine = new Laurent();
    private final Laurent theirs = new Laurent();
    private final Colouring colouring = new Colouring();
    private final Search seeker = new Search();
    private final Book names = new Book();
    private final int[] findingCounts = new int[FINDINGS + 1];
    private int pictureCount;
    private int moveCount;
    private int openPlace = NONE;
    private int partedBy;
    private int refusal;

    public KnotTable() {
    }

    // ---- what every call needs

    private boolean hasPicture(int p) {
        return p >= 0 && p < pictureCount;
    }

    private boolean hasMove(int m) {
        return m >= 0 && m < moveCount;
    }

    private boolean isWhole(int p, Look by) {
        by.survey(pictures[p]);
        return by.reason == 0;
    }

    private int refuse(int why) {
        refusal = why;
        int finding = BEFORE_FINDINGS - why;
        if (finding >= 1 && finding <= FINDINGS) {
            findingCounts[finding]++;
        }
        return why;
    }

    private int grant(int answer) {
        refusal = 0;
        return answer;
    }

    private boolean isFull() {
        return pictureCount >= MOST_PICTURES;
    }

    /** A new PICTURE as a model is; the caller has looked that there is room. */
    private int addLike(Picture model) {
        Picture fresh = new Picture();
        fresh.take(model);
        pictures[pictureCount] = fresh;
        pictureCount++;
        return pictureCount - 1;
    }

    // ---- pictures

    public int picture() {
        if (isFull()) {
            return refuse(FULL);
        }
        draft.empty();
        return grant(addLike(draft));
    }

    private static boolean isArc(int arc) {
        return arc >= NONE && arc < ARCS;
    }

    public int crossing(int p, int a, int b, int c, int d) {
        if (!hasPicture(p) || !isArc(a) || !isArc(b) || !isArc(c) || !isArc(d)) {
            return refuse(BAD);
        }
        Picture picture = pictures[p];
        if (picture.size >= MOST_CROSSINGS) {
            return refuse(FULL);
        }
        picture.forget();
        picture.add(a, b, c, d);
        return grant(picture.size - 1);
    }

    public int row(int p, int c, int n) {
        if (!hasPicture(p) || n < NONE || n > 4) {
            return refuse(BAD);
        }
        Picture picture = pictures[p];
        if (!picture.hasCrossing(c)) {
            return refuse(BEYOND);
        }
        picture.forget();
        picture.resize(c, n);
        return grant(1);
    }

    /** Why ENDS i of a CROSSING cannot be reached, or 0. */
    private static int whyOutOfReach(Picture picture, int c, int i) {
        if (!picture.hasCrossing(c)) {
            return BEYOND;
        }
        if (picture.lengths[c] < 0) {
            return LACKING;
        }
        return i < 0 || i >= picture.lengths[c] ? BEYOND : 0;
    }

    public int end(int p, int c, int i) {
        if (!hasPicture(p)) {
            return refuse(BAD);
        }
        int why = whyOutOfReach(pictures[p], c, i);
        return why != 0 ? refuse(why) : grant(pictures[p].arcs[4 * c + i]);
    }

    public int put(int p, int c, int i, int arc) {
        if (!hasPicture(p) || !isArc(arc)) {
            return refuse(BAD);
        }
        int why = whyOutOfReach(pictures[p], c, i);
        if (why != 0) {
            return refuse(why);
        }
        pictures[p].forget();
        pictures[p].arcs[4 * c + i] = arc;
        return grant(1);
    }

    /** Whether a row of some length has n numbers from one on; written so that nothing wraps. */
    private static boolean reaches(int length, int from, int n) {
        return from >= 0 && n >= 0 && from <= length && n <= length - from;
    }

    public int copy(int p, int c, int from, int q, int d, int to, int n) {
        if (!hasPicture(p) || !hasPicture(q)) {
            return refuse(BAD);
        }
        Picture source = pictures[p];
        Picture target = pictures[q];
        if (!source.hasCrossing(c) || !target.hasCrossing(d)) {
            return refuse(BEYOND);
        }
        if (source.lengths[c] < 0 || target.lengths[d] < 0) {
            return refuse(LACKING);
        }
        if (!reaches(source.lengths[c], from, n) || !reaches(target.lengths[d], to, n)) {
            return refuse(BEYOND);
        }
        target.forget();
        System.arraycopy(source.arcs, 4 * c + from, target.arcs, 4 * d + to, n);
        return grant(1);
    }

    public int loose(int p, int n) {
        if (!hasPicture(p) || n < 0 || n > MOST_LOOPS) {
            return refuse(BAD);
        }
        Picture picture = pictures[p];
        int before = picture.loops;
        picture.forget();
        picture.loops = n;
        return grant(before);
    }

    public int open(int p) {
        if (!hasPicture(p)) {
            return refuse(BAD);
        }
        look.survey(pictures[p]);
        openPlace = look.place;
        return grant(look.reason);
    }

    public int where() {
        return openPlace;
    }

    public int told(int p, int what) {
        if (!hasPicture(p) || what < 0 || what > 5) {
            return refuse(BAD);
        }
        if (what == 0) {
            return grant(pictures[p].size);
        }
        if (what == 1) {
            return grant(pictures[p].loops);
        }
        if (!isWhole(p, look)) {
            return refuse(OPEN);
        }
        switch (what) {
            case 2: return grant(look.allPieces());
            case 3: return grant(look.regions);
            case 4: return grant(look.parts);
            default: return grant(look.writhe);
        }
    }

    public int mirror(int p) {
        if (!hasPicture(p)) {
            return refuse(BAD);
        }
        if (!isWhole(p, look)) {
            return refuse(OPEN);
        }
        Picture picture = pictures[p];
        picture.remember();
        for (int c = 0; c < picture.size; c++) {
            picture.rotate(c, 1);
        }
        return grant(1);
    }

    public int turn(int p) {
        if (!hasPicture(p)) {
            return refuse(BAD);
        }
        if (!isWhole(p, look)) {
            return refuse(OPEN);
        }
        Picture picture = pictures[p];
        picture.remember();
        for (int c = 0; c < picture.size; c++) {
            picture.flip(c);
        }
        return grant(1);
    }

    public int join(int p, int a, int q, int b) {
        if (!hasPicture(p) || !hasPicture(q)) {
            return refuse(BAD);
        }
        if (isFull()) {
            return refuse(FULL);
        }
        if (!isWhole(p, look) || !isWhole(q, otherLook)) {
            return refuse(OPEN);
        }
        if (!look.hasEnd(a) || !otherLook.hasEnd(b)) {
            return refuse(NOT);
        }
        if (look.size + otherLook.size > MOST_CROSSINGS || look.loops + otherLook.loops > MOST_LOOPS) {
            return refuse(MANY);
        }
        draft.take(pictures[p]);
        draft.append(pictures[q], otherLook);
        int shift = 4 * look.size;
        draft.arcs[shift + b] = draft.arcs[a];
        int link = draft.freeArc(NONE);
        draft.arcs[look.mate[a]] = link;
        draft.arcs[shift + otherLook.mate[b]] = link;
        return grant(addLike(draft));
    }

    public int twin(int p) {
        if (!hasPicture(p)) {
            return refuse(BAD);
        }
        return isFull() ? refuse(FULL) : grant(addLike(pictures[p]));
    }

    public int undo(int p) {
        if (!hasPicture(p)) {
            return refuse(BAD);
        }
        return pictures[p].goBack() ? grant(pictures[p].pastCount) : refuse(NOT);
    }

    // ---- numbers

    public int sign(int p, int c) {
        if (!hasPicture(p)) {
            return refuse(BAD);
        }
        if (!isWhole(p, look)) {
            return refuse(OPEN);
        }
        return pictures[p].hasCrossing(c) ? grant(look.signs[c]) : refuse(BEYOND);
    }

    public int pieceOf(int p, int end) {
        if (!hasPicture(p)) {
            return refuse(BAD);
        }
        if (!isWhole(p, look)) {
            return refuse(OPEN);
        }
        return look.hasEnd(end) ? grant(look.pieceAt[end]) : refuse(BEYOND);
    }

    public int linking(int p, int i, int j) {
        if (!hasPicture(p)) {
            return refuse(BAD);
        }
        if (!isWhole(p, look)) {
            return refuse(OPEN);
        }
        int pieces = look.allPieces();
        if (i < 0 || i >= pieces || j < 0 || j >= pieces || i == j) {
            return refuse(NOT);
        }
        return grant(look.linkOf(i, j));
    }

    private static boolean isColourCount(int m) {
        for (int k = 0; k < COLOUR_COUNTS.length; k++) {
            if (COLOUR_COUNTS[k] == m) {
                return true;
            }
        }
        return false;
    }

    public int colours(int p, int m) {
        if (!hasPicture(p) || !isColourCount(m)) {
            return refuse(BAD);
        }
        return isWhole(p, look) ? grant(colouring.powerOf(look, m)) : refuse(OPEN);
    }

    /** Why no BRACKET can be made of a PICTURE of a limit, or 0; leaves it surveyed in look. */
    private int whyNoBracket(int p, int limit) {
        if (!isWhole(p, look)) {
            return OPEN;
        }
        if (look.size == 0 && look.loops == 0) {
            return EMPTY;
        }
        if (look.size > limit) {
            return GREAT;
        }
        return smoothing.affords(Smoothing.costOf(look.size)) ? 0 : SPENT;
    }

    public int bracket(int p) {
        int why = hasPicture(p) ? whyNoBracket(p, BRACKET_CROSSINGS) : BAD;
        if (why != 0) {
            return refuse(why);
        }
        smoothing.makeBracket(look, result);
        return grant(result.countNumbers());
    }

    public int polynomial(int p) {
        int why = hasPicture(p) ? whyNoBracket(p, BRACKET_CROSSINGS) : BAD;
        if (why != 0) {
            return refuse(why);
        }
        smoothing.makePolynomial(look, result);
        return grant(result.countNumbers());
    }

    public long at(int power) {
        return result.numberAt(power);
    }

    public int power(int what) {
        if (what != 0 && what != 1) {
            return refuse(BAD);
        }
        if (!result.made) {
            return refuse(NOT);
        }
        return grant(what == 0 ? result.lowest() : result.highest());
    }

    public long determinant(int p) {
        int why = hasPicture(p) ? whyNoBracket(p, BRACKET_CROSSINGS) : BAD;
        if (why != 0) {
            return refuse(why);
        }
        smoothing.makeBracket(look, mine);
        refusal = 0;
        return mine.alternatingSize();
    }

    public int gauss(int p) {
        if (!hasPicture(p)) {
            return refuse(BAD);
        }
        if (!isWhole(p, look)) {
            return refuse(OPEN);
        }
        look.spell(tape);
        return grant(tape.length);
    }

    public int type(int v) {
        return tape.add(v) ? grant(tape.length) : refuse(FULL);
    }

    public int clear() {
        int before = tape.length;
        tape.empty();
        return grant(before);
    }

    public int item(int k) {
        return tape.has(k) ? tape.numbers[k] : BAD;
    }

    public int ofGauss() {
        if (isFull()) {
            return refuse(FULL);
        }
        if (!draft.draw(tape)) {
            return refuse(NOT);
        }
        look.survey(draft);
        return look.reason == 0 ? grant(addLike(draft)) : refuse(NOT);
    }

    // ---- moves

    private static boolean isKind(int kind) {
        return kind >= 0 && kind < KINDS;
    }

    public int move(int kind, int a, int b, int c) {
        if (!isKind(kind)) {
            return refuse(BAD);
        }
        if (moveCount >= MOST_MOVES) {
            return refuse(FULL);
        }
        moves[moveCount] = new Move(kind, a, b, c);
        moveCount++;
        return grant(moveCount - 1);
    }

    public int tells(int m, int what) {
        if (!hasMove(m) || what < 0 || what > 5) {
            return refuse(BAD);
        }
        bodies.empty();
        if (what < 4) {
            return grant(moves[m].number(what));
        }
        int more = moves[m].growth(bodies);
        if (what == 4) {
            return grant(more);
        }
        return grant(more == 0 ? 1 : 0);
    }

    public int as(int m, int kind) {
        if (!hasMove(m) || !isKind(kind)) {
            return refuse(BAD);
        }
        return moves[m].isA(kind) ? grant(1) : refuse(UNFIT);
    }

    /** Does a MOVE on the draft alone, so that what is refused leaves the PICTURE as it is. */
    private int tryMove(int p, int m) {
        if (!hasPicture(p) || !hasMove(m)) {
            return BAD;
        }
        if (!isWhole(p, look)) {
            return OPEN;
        }
        draft.take(pictures[p]);
        return moves[m].applyTo(draft, look);
    }

    private int tryUndoing(int p, int m) {
        if (!hasPicture(p) || !hasMove(m)) {
            return BAD;
        }
        if (!moves[m].canBeUndone()) {
            return UNFIT;
        }
        if (!isWhole(p, look)) {
            return OPEN;
        }
        draft.take(pictures[p]);
        return moves[m].withdrawFrom(draft, look);
    }

    private int settle(int p, int answer) {
        if (answer != 1) {
            return refuse(answer);
        }
        pictures[p].remember();
        pictures[p].take(draft);
        return grant(1);
    }

    public int may(int p, int m) {
        int answer = tryMove(p, m);
        return answer == 1 ? grant(1) : refuse(answer);
    }

    public int does(int p, int m) {
        return settle(p, tryMove(p, m));
    }

    public int undoes(int p, int m) {
        return settle(p, tryUndoing(p, m));
    }

    public int trace(int k) {
        return bodies.has(k) ? bodies.numbers[k] : NONE;
    }

    // ---- search

    public int like(int p, int q) {
        if (!hasPicture(p) || !hasPicture(q)) {
            return refuse(BAD);
        }
        if (!isWhole(p, look) || !isWhole(q, otherLook)) {
            return refuse(OPEN);
        }
        if (look.size != otherLook.size || look.loops != otherLook.loops) {
            return grant(0);
        }
        return grant(seeker.likeness.holds(look.mate, otherLook.mate, look.size) ? 1 : 0);
    }

    private static boolean isStepCount(int n) {
        return n >= 0 && n <= MOST_STEPS;
    }

    public int search(int p, int n) {
        if (!hasPicture(p) || !isStepCount(n)) {
            return refuse(BAD);
        }
        if (!isWhole(p, look)) {
            return refuse(OPEN);
        }
        if (look.size > SEARCH_CROSSINGS) {
            return refuse(GREAT);
        }
        seeker.begin(pictures[p]);
        return grant(seeker.go(n));
    }

    public int goOn(int n) {
        if (!isStepCount(n)) {
            return refuse(BAD);
        }
        return seeker.begun ? grant(seeker.go(n)) : refuse(NOT);
    }

    public int searched(int what) {
        if (what < 0 || what > 3) {
            return refuse(BAD);
        }
        if (!seeker.begun) {
            return refuse(NOT);
        }
        switch (what) {
            case 0: return grant(seeker.ended ? 1 : 0);
            case 1: return grant(seeker.count);
            case 2: return grant(seeker.states[seeker.smallest()].size);
            default: return grant(seeker.steps);
        }
    }

    public int fewer() {
        if (isFull()) {
            return refuse(FULL);
        }
        if (!seeker.begun) {
            return refuse(NOT);
        }
        int best = seeker.smallest();
        seeker.tellWays(best);
        seeker.states[best].pourInto(draft);
        return grant(addLike(draft));
    }

    /** The first number that parts the two surveyed pictures, 0 if none does, or SPENT. */
    private int partingNumber() {
        if (look.allPieces() != otherLook.allPieces()) {
            return PARTED_BY_PIECES;
        }
        for (int k = 0; k < COLOUR_COUNTS.length; k++) {
            int m = COLOUR_COUNTS[k];
            if (colouring.powerOf(look, m) != colouring.powerOf(otherLook, m)) {
                return PARTED_BY_COLOURS + k;
            }
        }
        if (look.allPieces() != 1 || look.size > BRACKET_CROSSINGS || otherLook.size > BRACKET_CROSSINGS) {
            return 0;
        }
        if (!smoothing.affords(Smoothing.costOf(look.size) + Smoothing.costOf(otherLook.size))) {
            return SPENT;
        }
        smoothing.makePolynomial(look, mine);
        smoothing.makePolynomial(otherLook, theirs);
        return mine.isAs(theirs) ? 0 : PARTED_BY_POLYNOMIAL;
    }

    public int same(int p, int q, int n) {
        if (!hasPicture(p) || !hasPicture(q) || !isStepCount(n)) {
            return refuse(BAD);
        }
        if (!isWhole(p, look) || !isWhole(q, otherLook)) {
            return refuse(OPEN);
        }
        if (look.size > SEARCH_CROSSINGS) {
            return refuse(GREAT);
        }
        int parting = partingNumber();
        if (parting < 0) {
            return refuse(parting);
        }
        partedBy = parting;
        if (parting != 0) {
            return grant(0);
        }
        seeker.begin(pictures[p]);
        seeker.aimAt(pictures[q]);
        seeker.go(n);
        return grant(seeker.takeAim() ? 1 : NONE);
    }

    public int parted() {
        return partedBy;
    }

    public int way(int k) {
        return seeker.ways.has(k) ? seeker.ways.numbers[k] : NONE;
    }

    /** Goes the ways on the draft; whether each of them may be done. */
    private boolean goWays() {
        for (int k = 0; k < seeker.ways.length; k++) {
            look.pairUp(draft);
            if (!Move.takeStep(draft, look, seeker.ways.numbers[k])) {
                return false;
            }
        }
        return true;
    }

    public int check(int p) {
        if (!hasPicture(p)) {
            return refuse(BAD);
        }
        if (isFull()) {
            return refuse(FULL);
        }
        if (!isWhole(p, look)) {
            return refuse(OPEN);
        }
        draft.take(pictures[p]);
        return goWays() ? grant(addLike(draft)) : refuse(NOT);
    }

    // ---- the book

    public int book(int p, long name) {
        if (!hasPicture(p) || name == 0) {
            return refuse(BAD);
        }
        if (names.count >= MOST_NAMES) {
            return refuse(FULL);
        }
        int why = whyNoBracket(p, BOOK_CROSSINGS);
        if (why != 0) {
            return refuse(why);
        }
        if (names.has(name)) {
            return refuse(NOT);
        }
        smoothing.makePolynomial(look, mine);
        names.add(name, mine);
        return grant(names.count);
    }

    public long name(int p) {
        int why = hasPicture(p) ? whyNoBracket(p, BOOK_CROSSINGS) : BAD;
        if (why != 0) {
            return refuse(why);
        }
        smoothing.makePolynomial(look, mine);
        refusal = 0;
        return names.firstFor(mine);
    }

    // ---- what is told

    public int count(int what) {
        switch (what) {
            case 0: return pictureCount;
            case 1: return moveCount;
            case 2: return names.count;
            case 3: return tape.length;
            case 4: return smoothing.spent;
            default: return BAD;
        }
    }

    public int findings(int finding) {
        return finding >= 1 && finding <= FINDINGS ? findingCounts[finding] : BAD;
    }

    public int status() {
        return refusal;
    }

    public long digest() {
        long h = 17;
        for (int p = 0; p < pictureCount; p++) {
            h = pictures[p].mixInto(h);
        }
        refusal = 0;
        return h;
    }

    /** The END k places on from END e round its CROSSING, against the clock. */
    private static int corner(int e, int k) {
        return (e & ~3) | ((e + k) & 3);
    }

    /** A row of numbers up to a limit. */
    private static final class Numbers {
        private final int[] numbers;
        private int length;

        Numbers(int limit) {
            numbers = new int[Math.max(limit, 0)];
        }

        boolean has(int k) {
            return k >= 0 && k < length;
        }

        boolean add(int v) {
            if (length >= numbers.length) {
                return false;
            }
            numbers[length] = v;
            length++;
            return true;
        }

        void empty() {
            length = 0;
        }

        boolean holds(int v) {
            for (int k = 0; k < length; k++) {
                if (numbers[k] == v) {
                    return true;
                }
            }
            return false;
        }

        void reverse() {
            for (int k = 0; k < length / 2; k++) {
                int kept = numbers[k];
                numbers[k] = numbers[length - 1 - k];
                numbers[length - 1 - k] = kept;
            }
        }
    }

    /** A PICTURE; cells behind the end of a ROW, or of all ROWS, are always -1. */
    private static final class Picture {
        private static final int MOST_PAST = 10, PAST_WIDTH = ENDS + 2;

        private final int[] lengths = new int[MOST_CROSSINGS];
        private final int[] arcs = new int[ENDS];
        private int size;
        private int loops;
        private int[] past;
        private int pastCount;
        private int pastNext;

        Picture() {
            Arrays.fill(arcs, NONE);
        }

        boolean hasCrossing(int c) {
            return c >= 0 && c < size;
        }

        void empty() {
            Arrays.fill(arcs, NONE);
            size = 0;
            loops = 0;
        }

        /** Becomes as another one is now; what it remembers stays its own. */
        void take(Picture other) {
            System.arraycopy(other.lengths, 0, lengths, 0, MOST_CROSSINGS);
            System.arraycopy(other.arcs, 0, arcs, 0, ENDS);
            size = other.size;
            loops = other.loops;
        }

        /** The caller has looked that there is room; a CROSSING too many is left out. */
        void add(int a, int b, int c, int d) {
            if (size >= MOST_CROSSINGS) {
                return;
            }
            lengths[size] = 4;
            arcs[4 * size] = a;
            arcs[4 * size + 1] = b;
            arcs[4 * size + 2] = c;
            arcs[4 * size + 3] = d;
            size++;
        }

        void resize(int c, int n) {
            lengths[c] = n;
            for (int i = Math.max(n, 0); i < 4; i++) {
                arcs[4 * c + i] = NONE;
            }
        }

        void rotate(int c, int by) {
            int e = 4 * c;
            int e0 = arcs[corner(e, by)];
            int e1 = arcs[corner(e, by + 1)];
            int e2 = arcs[corner(e, by + 2)];
            int e3 = arcs[corner(e, by + 3)];
            arcs[e] = e0;
            arcs[e + 1] = e1;
            arcs[e + 2] = e2;
            arcs[e + 3] = e3;
        }

        void flip(int c) {
            swap(4 * c, 4 * c + 1);
            swap(4 * c + 2, 4 * c + 3);
        }

        private void swap(int e, int f) {
            int kept = arcs[e];
            arcs[e] = arcs[f];
            arcs[f] = kept;
        }

        /** The least free ARC above a number. */
        int freeArc(int above) {
            long low = 0;
            long high = 0;
            for (int e = 0; e < 4 * size; e++) {
                int arc = arcs[e];
                if (arc >= 64) {
                    high |= 1L << (arc - 64);
                } else if (arc >= 0) {
                    low |= 1L << arc;
                }
            }
            for (int arc = above + 1; arc < ARCS; arc++) {
                long taken = arc < 64 ? low >> arc : high >> (arc - 64);
                if ((taken & 1) == 0) {
                    return arc;
                }
            }
            return NONE;
        }

        /** JOINS ARC y with z. */
        void fuse(int y, int z) {
            if (y == z) {
                loops++;
                return;
            }
            for (int e = 0; e < 4 * size; e++) {
                if (arcs[e] == z) {
                    arcs[e] = y;
                }
            }
        }

        void remove(int c) {
            if (!hasCrossing(c)) {
                return;
            }
            int behind = size - 1 - c;
            System.arraycopy(arcs, 4 * c + 4, arcs, 4 * c, 4 * behind);
            System.arraycopy(lengths, c + 1, lengths, c, behind);
            size--;
            Arrays.fill(arcs, 4 * size, 4 * size + 4, NONE);
        }

        /** Takes another one's CROSSINGS behind its own, with ARCS that are free; there is room. */
        void append(Picture other, Look otherLook) {
            int shift = 4 * size;
            loops += other.loops;
            for (int c = 0; c < other.size; c++) {
                add(NONE, NONE, NONE, NONE);
            }
            for (int e = 0; e < 4 * other.size; e++) {
                int mate = otherLook.mate[e];
                arcs[shift + e] = mate < e ? arcs[shift + mate] : freeArc(NONE);
            }
        }

        /** Only WHOLE pictures are remembered, so the lengths of ROWS need no place. */
        void remember() {
            if (past == null) {
                past = new int[MOST_PAST * PAST_WIDTH];
            }
            int from = pastNext * PAST_WIDTH;
            past[from] = size;
            past[from + 1] = loops;
            System.arraycopy(arcs, 0, past, from + 2, ENDS);
            pastNext = (pastNext + 1) % MOST_PAST;
            pastCount = Math.min(pastCount + 1, MOST_PAST);
        }

        void forget() {
            pastCount = 0;
        }

        boolean goBack() {
            if (past == null || pastCount < 1) {
                return false;
            }
            pastNext = (pastNext + MOST_PAST - 1) % MOST_PAST;
            pastCount--;
            int from = pastNext * PAST_WIDTH;
            size = past[from];
            loops = past[from + 1];
            System.arraycopy(past, from + 2, arcs, 0, ENDS);
            Arrays.fill(lengths, 0, size, 4);
            return true;
        }

        /** Becomes what a Gauss row says, FLAT or not; whether it is a Gauss row at all. */
        boolean draw(Numbers row) {
            int passes = countPasses(row);
            if (passes < 0 || passes > 2 * MOST_CROSSINGS) {
                return false;
            }
            empty();
            loops = -2 - row.numbers[row.length - 1];
            for (int c = 0; c < passes / 2; c++) {
                add(NONE, NONE, NONE, NONE);
            }
            int pass = 0;
            int first = 0;
            for (int k = 0; k < row.length - 1; k++) {
                int v = row.numbers[k];
                if (v < 0) {
                    closePiece(row.numbers[k - pass + first], first, pass - 1);
                    first = pass;
                    continue;
                }
                if (!row.holds(v ^ 2) || !drawPass(v, pass == first ? ARCS : pass - 1, pass)) {
                    return false;
                }
                pass++;
            }
            return true;
        }

        /** How many passes a row has, or -1 when its marks do not stand as in a Gauss row. */
        private static int countPasses(Numbers row) {
            int last = row.length - 1;
            if (last < 0 || row.numbers[last] > -2 || row.numbers[last] < -2 - MOST_LOOPS) {
                return -1;
            }
            int passes = 0;
            boolean inPiece = false;
            for (int k = 0; k < last; k++) {
                int v = row.numbers[k];
                if (v < -1 || (v == -1 && !inPiece)) {
                    return -1;
                }
                inPiece = v >= 0;
                passes += inPiece ? 1 : 0;
            }
            return inPiece ? -1 : passes;
        }

        /** Sets the two ENDS of a pass; false when there is no such PLACE or they are set. */
        private boolean drawPass(int v, int in, int out) {
            if (!hasCrossing(v >> 2)) {
                return false;
            }
            int entry = entryOf(v);
            if (arcs[entry] != NONE) {
                return false;
            }
            arcs[entry] = in;
            arcs[corner(entry, 2)] = out;
            return true;
        }

        /** The END by which a pass of the Gauss row comes in. */
        private static int entryOf(int v) {
            int e = v & ~3;
            if ((v & 2) == 0) {
                return e;
            }
            return (v & 1) == 1 ? e + 3 : e + 1;
        }

        /** The first pass of a PIECE comes in by the ARC of the last one, known only now. */
        private void closePiece(int v, int first, int last) {
            int entry = entryOf(v);
            if (first <= last && hasCrossing(entry >> 2)) {
                arcs[entry] = last;
            }
        }

        long mixInto(long h) {
            h = 31 * h + loops;
            for (int c = 0; c < size; c++) {
                h = 31 * h + lengths[c];
                for (int i = 0; i < lengths[c]; i++) {
                    h = 31 * h + arcs[4 * c + i];
                }
            }
            return h;
        }
    }

    /** What is to be seen of one PICTURE: why it is OPEN, or all that follows from its being WHOLE. */
    private static final class Look {
        private final int[] mate = new int[ENDS];
        private final int[] regionOf = new int[ENDS];
        private final int[] regionLength = new int[ENDS];
        private final int[] pieceAt = new int[ENDS];
        private final int[] outward = new int[ENDS];
        private final int[] starts = new int[ENDS];
        private final int[] signs = new int[MOST_CROSSINGS];
        private final int[] partOf = new int[MOST_CROSSINGS];
        private final int[] queue = new int[MOST_CROSSINGS];
        private final int[] arcEnds = new int[ARCS];
        private int size;
        private int loops;
        private int regions;
        private int parts;
        private int pieces;
        private int writhe;
        private int reason;
        private int place;

        boolean hasEnd(int e) {
            return e >= 0 && e < 4 * size;
        }

        int allPieces() {
            return pieces + loops;
        }

        void survey(Picture picture) {
            size = picture.size;
            loops = picture.loops;
            reason = 0;
            place = NONE;
            findFault(picture);
            if (reason != 0) {
                return;
            }
            pairUp(picture);
            findRegions();
            findParts();
            if (regions != size + 2 * parts) {
                reason = 4;
                return;
            }
            findPieces();
            findSigns();
        }

        private void blame(int why, int c) {
            if (reason == 0) {
                reason = why;
                place = c;
            }
        }

        private void findFault(Picture picture) {
            for (int c = 0; c < size; c++) {
                if (picture.lengths[c] != 4) {
                    blame(1, c);
                }
            }
            for (int e = 0; e < 4 * size; e++) {
                if (picture.arcs[e] < 0) {
                    blame(2, e >> 2);
                }
            }
            if (reason != 0) {
                return;
            }
            Arrays.fill(arcEnds, 0);
            for (int e = 0; e < 4 * size; e++) {
                arcEnds[picture.arcs[e]]++;
            }
            for (int e = 0; e < 4 * size; e++) {
                if (arcEnds[picture.arcs[e]] != 2) {
                    blame(3, e >> 2);
                }
            }
        }

        /** Finds OTHER ENDS alone: enough for steps on a PICTURE that is known to be WHOLE. */
        void pairUp(Picture picture) {
            size = picture.size;
            loops = picture.loops;
            Arrays.fill(arcEnds, NONE);
            for (int e = 0; e < 4 * size; e++) {
                int arc = picture.arcs[e];
                if (arc < 0 || arc >= ARCS) {
                    continue;
                }
                int other = arcEnds[arc];
                if (other < 0) {
                    arcEnds[arc] = e;
                } else {
                    mate[e] = other;
                    mate[other] = e;
                }
            }
        }

        int nextInRegion(int e) {
            return corner(mate[e], 3);
        }

        void findRegions() {
            Arrays.fill(regionOf, NONE);
            regions = 0;
            for (int e = 0; e < 4 * size; e++) {
                if (regionOf[e] < 0) {
                    walkRegion(e);
                }
            }
        }

        private void walkRegion(int from) {
            int length = 0;
            int e = from;
            for (int n = 0; n < ENDS && regionOf[e] < 0; n++) {
                regionOf[e] = regions;
                length++;
                e = corner(mate[e], 3);
            }
            regionLength[regions] = length;
            regions++;
        }

        private void findParts() {
            Arrays.fill(partOf, NONE);
            parts = 0;
            for (int c = 0; c < size; c++) {
                if (partOf[c] < 0) {
                    spreadPart(c);
                    parts++;
                }
            }
        }

        private void spreadPart(int from) {
            int known = 1;
            queue[0] = from;
            partOf[from] = parts;
            for (int done = 0; done < known && done < MOST_CROSSINGS; done++) {
                for (int i = 0; i < 4; i++) {
                    int c = mate[4 * queue[done] + i] >> 2;
                    if (partOf[c] < 0) {
                        partOf[c] = parts;
                        queue[known] = c;
                        known++;
                    }
                }
            }
        }

        private void findPieces() {
            Arrays.fill(pieceAt, NONE);
            pieces = 0;
            for (int e = 0; e < 4 * size; e++) {
                if (pieceAt[e] < 0) {
                    walkPiece(e);
                }
            }
        }

        private void walkPiece(int start) {
            int out = start;
            for (int n = 0; n < ENDS && pieceAt[out] < 0; n++) {
                int in = mate[out];
                pieceAt[out] = pieces;
                outward[out] = 1;
                pieceAt[in] = pieces;
                outward[in] = 0;
                out = corner(in, 2);
            }
            starts[pieces] = start;
            pieces++;
        }

        private void findSigns() {
            writhe = 0;
            for (int c = 0; c < size; c++) {
                int lower = outward[4 * c] == 1 ? 2 : 0;
                int upper = outward[4 * c + 1] == 1 ? 3 : 1;
                signs[c] = upper == ((lower + 3) & 3) ? 1 : -1;
                writhe += signs[c];
            }
        }

        int linkOf(int i, int j) {
            int sum = 0;
            for (int c = 0; c < size; c++) {
                int lower = pieceAt[4 * c];
                int upper = pieceAt[4 * c + 1];
                if ((lower == i && upper == j) || (lower == j && upper == i)) {
                    sum += signs[c];
                }
            }
            return sum / 2;
        }

        /** Writes the Gauss row; 40 CROSSINGS give 121 numbers at most, so it always has room. */
        void spell(Numbers row) {
            row.empty();
            for (int piece = 0; piece < pieces; piece++) {
                int out = starts[piece];
                for (int n = 0; n < ENDS; n++) {
                    int in = mate[out];
                    int c = in >> 2;
                    row.add(4 * c + 2 * (in & 1) + (signs[c] == 1 ? 1 : 0));
                    out = corner(in, 2);
                    if (out == starts[piece]) {
                        break;
                    }
                }
                row.add(-1);
            }
            row.add(-2 - loops);
        }

        /** A number that LIKE pictures share, so that most unlike ones need no closer look. */
        int likenessMark() {
            int mark = 0;
            for (int e = 0; e < 4 * size; e++) {
                int trait = 4 * regionLength[regionOf[e]] + 2 * (e & 1) + (mate[e] & 1);
                mark += (trait * trait + 7) * trait;
            }
            return mark;
        }
    }

    /** A MOVE, and what each KIND does to a draft whose Look was taken ahead of it. */
    private static final class Move {
        private static final int TWIST = 0, POKE = 1, SLIDE = 2, FLYPE = 3, SMOOTH = 4, CHANGE = 5;
        private static final int[] PARENTS = {NONE, TWIST, NONE, SLIDE, NONE, SMOOTH};
        private static final int LAST_BIT = 30;

        private final int kind;
        private final int a;
        private final int b;
        private final int c;

        Move(int kind, int a, int b, int c) {
            this.kind = kind;
            this.a = a;
            this.b = b;
            this.c = c;
        }

        int number(int what) {
            switch (what) {
                case 0: return kind;
                case 1: return a;
                case 2: return b;
                default: return c;
            }
        }

        boolean isA(int wanted) {
            return kind == wanted || PARENTS[kind] == wanted;
        }

        boolean canBeUndone() {
            return kind != SMOOTH;
        }

        /** How many CROSSINGS more it makes; each BODY that tells of it is written down. */
        int growth(Numbers bodies) {
            switch (kind) {
                case TWIST:
                    return twistGrowth(bodies);
                case POKE:
                    bodies.add(2);
                    return twistGrowth(bodies) + twistGrowth(bodies);
                case SMOOTH:
                    bodies.add(5);
                    return -1;
                case CHANGE:
                    bodies.add(6);
                    return 0;
                default:
                    bodies.add(3);
                    return 0;
            }
        }

        private static int twistGrowth(Numbers bodies) {
            bodies.add(1);
            return 1;
        }

        int applyTo(Picture draft, Look look) {
            switch (kind) {
                case TWIST: return twist(draft, look);
                case POKE: return poke(draft, look);
                case SLIDE: return slide(draft, look, a);
                case FLYPE: return flype(draft, look, a);
                case SMOOTH: return smooth(draft);
                default: return change(draft, 1);
            }
        }

        /** Only for those that can be undone. */
        int withdrawFrom(Picture draft, Look look) {
            switch (kind) {
                case TWIST: return untwist(draft, look, a);
                case POKE: return unpoke(draft, look, a);
                case SLIDE: return slide(draft, look, corner(a, 2));
                case FLYPE: return flype(draft, look, corner(a, 2));
                default: return change(draft, 3);
            }
        }

        /** Goes a way (3 e + k) of the SEARCH on a draft; whether it may be done. */
        static boolean takeStep(Picture draft, Look look, int way) {
            int e = way / 3;
            switch (way % 3) {
                case 0: return untwist(draft, look, e) == 1;
                case 1: return unpoke(draft, look, e) == 1;
                default: return slide(draft, look, e) == 1;
            }
        }

        /** Whether a way may be tried at all; spares the SEARCH a draft for each that may not. */
        static boolean seemsOpen(Look look, int way) {
            int e = way / 3;
            switch (way % 3) {
                case 0: return isKink(look, e);
                case 1: return isLens(look, e);
                default: return isTriangle(look, e);
            }
        }

        private static int loopsAnswer(Picture draft) {
            return draft.loops > MOST_LOOPS ? MANY : 1;
        }

        private int twist(Picture draft, Look look) {
            boolean atLoop = a == -1;
            if (b < 0 || b > 3 || (atLoop ? draft.loops < 1 : !look.hasEnd(a))) {
                return NOT;
            }
            if (draft.size >= MOST_CROSSINGS) {
                return MANY;
            }
            if (atLoop) {
                int x = draft.freeArc(NONE);
                draft.loops--;
                addKink(draft, x, draft.freeArc(x), x);
                return 1;
            }
            int x = draft.arcs[a];
            int m = draft.freeArc(NONE);
            int z = draft.freeArc(m);
            draft.arcs[look.mate[a]] = z;
            addKink(draft, x, m, z);
            return 1;
        }

        private void addKink(Picture draft, int x, int m, int z) {
            switch (b) {
                case 0: draft.add(x, m, m, z); break;
                case 1: draft.add(x, z, m, m); break;
                case 2: draft.add(m, m, z, x); break;
                default: draft.add(z, m, m, x); break;
            }
        }

        private int poke(Picture draft, Look look) {
            if (!look.hasEnd(a) || !look.hasEnd(b) || c < 0 || c > 1
                    || look.regionOf[a] != look.regionOf[b] || draft.arcs[a] == draft.arcs[b]) {
                return NOT;
            }
            if (draft.size + 2 > MOST_CROSSINGS) {
                return MANY;
            }
            int x = draft.arcs[a];
            int y = draft.arcs[b];
            int p = draft.freeArc(NONE);
            int q = draft.freeArc(p);
            int r = draft.freeArc(q);
            int s = draft.freeArc(r);
            draft.arcs[look.mate[a]] = q;
            draft.arcs[look.mate[b]] = s;
            if (c == 0) {
                draft.add(r, p, s, x);
                draft.add(y, p, r, q);
            } else {
                draft.add(x, r, p, s);
                draft.add(q, y, p, r);
            }
            return 1;
        }

        private static boolean isKink(Look look, int e) {
            return look.hasEnd(e) && look.mate[e] == corner(e, 1);
        }

        private static int untwist(Picture draft, Look look, int e) {
            if (!isKink(look, e)) {
                return NOT;
            }
            draft.fuse(draft.arcs[corner(e, 2)], draft.arcs[corner(e, 3)]);
            draft.remove(e >> 2);
            return loopsAnswer(draft);
        }

        /** Whether POKE may be undone at an END: a REGION of two, one strand of it above the other. */
        private static boolean isLens(Look look, int e) {
            if (!look.hasEnd(e)) {
                return false;
            }
            int other = look.mate[e];
            int f = look.nextInRegion(e);
            return look.nextInRegion(f) == e && f >> 2 != e >> 2 && ((e ^ other) & 1) == 0;
        }

        private static int unpoke(Picture draft, Look look, int e) {
            if (!isLens(look, e)) {
                return NOT;
            }
            int other = look.mate[e];
            draft.fuse(draft.arcs[corner(e, 2)], draft.arcs[corner(other, 2)]);
            draft.fuse(draft.arcs[corner(e, 3)], draft.arcs[corner(other, 1)]);
            draft.remove(Math.max(e >> 2, other >> 2));
            draft.remove(Math.min(e >> 2, other >> 2));
            return loopsAnswer(draft);
        }

        private static boolean isOver(Look look, int e) {
            return (e & look.mate[e] & 1) == 1;
        }

        private static boolean isTriangle(Look look, int e) {
            if (!look.hasEnd(e)) {
                return false;
            }
            int f = look.nextInRegion(e);
            int g = look.nextInRegion(f);
            return look.nextInRegion(g) == e && e >> 2 != f >> 2 && f >> 2 != g >> 2 && g >> 2 != e >> 2
                    && (isOver(look, e) || isOver(look, f) || isOver(look, g));
        }

        private static int slide(Picture draft, Look look, int e) {
            if (!isTriangle(look, e)) {
                return NOT;
            }
            int f = look.nextInRegion(e);
            int g = look.nextInRegion(f);
            int eOut = draft.arcs[corner(e, 2)];
            int fOut = draft.arcs[corner(f, 2)];
            int gOut = draft.arcs[corner(g, 2)];
            int eFar = draft.arcs[corner(look.mate[e], 2)];
            int fFar = draft.arcs[corner(look.mate[f], 2)];
            int gFar = draft.arcs[corner(look.mate[g], 2)];
            slideArc(draft, e, look.mate[e], eOut, eFar);
            slideArc(draft, f, look.mate[f], fOut, fFar);
            slideArc(draft, g, look.mate[g], gOut, gFar);
            return 1;
        }

        /** The other two ARCS leave this one's ENDS alone, so its number can still be read here. */
        private static void slideArc(Picture draft, int near, int far, int u, int v) {
            int arc = draft.arcs[near];
            draft.arcs[near] = v;
            draft.arcs[corner(near, 2)] = arc;
            draft.arcs[far] = u;
            draft.arcs[corner(far, 2)] = arc;
        }

        private static boolean isIn(int bits, int e) {
            int place = e >> 2;
            return place >= 0 && place <= LAST_BIT && ((bits >> place) & 1) == 1;
        }

        /** Whether bits are of CROSSINGS that there are; with 31 of these all bits are. */
        private static boolean areThere(int bits, int size) {
            return bits >= 0 && (size > LAST_BIT || bits >> size == 0);
        }

        private static int countWaysOut(Look look, int bits) {
            int out = 0;
            for (int e = 0; e < 4 * look.size; e++) {
                if (isIn(bits, e) && !isIn(bits, look.mate[e])) {
                    out++;
                }
            }
            return out;
        }

        /** The END of T at which a walk along its rim, turning by k, comes out; -1 if it never does. */
        private static int wayOut(Look look, int bits, int from, int k) {
            int e = corner(from, k);
            for (int n = 0; n < ENDS; n++) {
                if (!isIn(bits, look.mate[e])) {
                    return e;
                }
                e = corner(look.mate[e], k);
            }
            return NONE;
        }

        private int flype(Picture draft, Look look, int at) {
            if (!look.hasEnd(at) || !areThere(b, look.size) || isIn(b, at)) {
                return NOT;
            }
            int w = look.mate[at];
            int n = look.mate[corner(at, 1)];
            if (!isIn(b, w) || !isIn(b, n) || countWaysOut(look, b) != 4) {
                return NOT;
            }
            int r = wayOut(look, b, n, 3);
            int s = wayOut(look, b, w, 1);
            if (r < 0 || s < 0 || r == s || r == w || r == n || s == w || s == n) {
                return NOT;
            }
            passOver(draft, at, w, n, r, s);
            for (int place = 0; place < look.size; place++) {
                if (isIn(b, 4 * place)) {
                    draft.flip(place);
                }
            }
            return 1;
        }

        /** Carries the CROSSING at an END over to the far side of T; all is read before it is changed. */
        private static void passOver(Picture draft, int at, int w, int n, int r, int s) {
            int[] arcs = draft.arcs;
            int f = arcs[at];
            int g = arcs[corner(at, 1)];
            int h = arcs[corner(at, 2)];
            int j = arcs[corner(at, 3)];
            int k = arcs[r];
            int l = arcs[s];
            arcs[at] = l;
            arcs[corner(at, 1)] = k;
            arcs[corner(at, 2)] = f;
            arcs[corner(at, 3)] = g;
            arcs[w] = h;
            arcs[n] = j;
            arcs[s] = f;
            arcs[r] = g;
        }

        private int smooth(Picture draft) {
            if (!draft.hasCrossing(a) || b < 0 || b > 1) {
                return NOT;
            }
            int e = 4 * a;
            if (b == 0) {
                draft.fuse(draft.arcs[e], draft.arcs[e + 1]);
                draft.fuse(draft.arcs[e + 2], draft.arcs[e + 3]);
            } else {
                draft.fuse(draft.arcs[e], draft.arcs[e + 3]);
                draft.fuse(draft.arcs[e + 1], draft.arcs[e + 2]);
            }
            draft.remove(a);
            return loopsAnswer(draft);
        }

        private int change(Picture draft, int by) {
            if (!draft.hasCrossing(a)) {
                return NOT;
            }
            draft.rotate(a, by);
            return 1;
        }
    }

    /** A row of whole numbers by powers of A. */
    private static final class Laurent {
        /** 14 CROSSINGS give 37 circles with the LOOSE ones: powers to 86, and 42 more by the WRITHE. */
        private static final int REACH = 140, WIDTH = 2 * REACH + 1;

        private long[] numbers = new long[WIDTH];
        private long[] spare = new long[WIDTH];
        private boolean made;

        long numberAt(int power) {
            return power >= -REACH && power <= REACH ? numbers[power + REACH] : 0;
        }

        void empty() {
            Arrays.fill(numbers, 0);
            made = true;
        }

        void add(int power, long number) {
            if (power >= -REACH && power <= REACH) {
                numbers[power + REACH] += number;
            }
        }

        private void swapRows() {
            long[] kept = numbers;
            numbers = spare;
            spare = kept;
        }

        /** Times -A^2 - A^-2: what one circle more is worth. */
        void multiplyByCircle() {
            for (int power = -REACH; power <= REACH; power++) {
                spare[power + REACH] = -numberAt(power - 2) - numberAt(power + 2);
            }
            swapRows();
        }

        /** Times -1 to the WRITHE and A to -3 times it. */
        void levelOut(int writhe) {
            int factor = (writhe & 1) == 1 ? -1 : 1;
            for (int power = -REACH; power <= REACH; power++) {
                spare[power + REACH] = factor * numberAt(power + 3 * writhe);
            }
            swapRows();
        }

        int countNumbers() {
            int count = 0;
            for (int k = 0; k < WIDTH; k++) {
                if (numbers[k] != 0) {
                    count++;
                }
            }
            return count;
        }

        int lowest() {
            for (int k = 0; k < WIDTH; k++) {
                if (numbers[k] != 0) {
                    return k - REACH;
                }
            }
            return 0;
        }

        int highest() {
            for (int k = WIDTH - 1; k >= 0; k--) {
                if (numbers[k] != 0) {
                    return k - REACH;
                }
            }
            return 0;
        }

        long alternatingSize() {
            long sum = 0;
            int factor = 1;
            for (int power = lowest(); power <= REACH; power += 4) {
                sum += factor * numberAt(power);
                factor = -factor;
            }
            return Math.abs(sum);
        }

        boolean isAs(Laurent other) {
            for (int k = 0; k < WIDTH; k++) {
                if (numbers[k] != other.numbers[k]) {
                    return false;
                }
            }
            return true;
        }

        void take(Laurent other) {
            System.arraycopy(other.numbers, 0, numbers, 0, WIDTH);
            made = other.made;
        }
    }

    /** Makes BRACKETS, and keeps count of the WORK. */
    private static final class Smoothing {
        private static final int MOST_CIRCLES = 2 * BRACKET_CROSSINGS + MOST_LOOPS;

        /** The far END of the path that begins at an END, by the smoothings done so far. */
        private final int[] far = new int[4 * BRACKET_CROSSINGS];
        private final int[][] tally = new int[MOST_CIRCLES + 1][BRACKET_CROSSINGS + 1];
        private int size;
        private int spent;

        static int costOf(int crossings) {
            return 1 << Math.min(Math.max(crossings, 0), BRACKET_CROSSINGS);
        }

        boolean affords(int cost) {
            return spent + cost <= MOST_WORK;
        }

        /** The caller has looked at the CROSSINGS and the WORK; too many CROSSINGS are left out. */
        void makeBracket(Look look, Laurent into) {
            size = Math.min(look.size, BRACKET_CROSSINGS);
            spent += costOf(size);
            int most = Math.min(2 * size + look.loops, MOST_CIRCLES);
            for (int k = 0; k <= most; k++) {
                Arrays.fill(tally[k], 0);
            }
            System.arraycopy(look.mate, 0, far, 0, 4 * size);
            smoothFrom(0, 0, look.loops);
            into.empty();
            for (int circles = most; circles >= 1; circles--) {
                into.multiplyByCircle();
                for (int zeros = 0; zeros <= size; zeros++) {
                    into.add(2 * zeros - size, tally[circles][zeros]);
                }
            }
        }

        void makePolynomial(Look look, Laurent into) {
            makeBracket(look, into);
            into.levelOut(look.writhe);
        }

        /** Counts all ways from a CROSSING on; it calls itself once for each CROSSING, 14 at most. */
        private void smoothFrom(int c, int zeros, int circles) {
            if (c >= size) {
                if (circles >= 0 && circles <= MOST_CIRCLES && zeros <= BRACKET_CROSSINGS) {
                    tally[circles][zeros]++;
                }
                return;
            }
            int e = 4 * c;
            int closed = tie(e, e + 1) + tie(e + 2, e + 3);
            smoothFrom(c + 1, zeros + 1, circles + closed);
            untie(e + 2, e + 3);
            untie(e, e + 1);
            closed = tie(e, e + 3) + tie(e + 1, e + 2);
            smoothFrom(c + 1, zeros, circles + closed);
            untie(e + 1, e + 2);
            untie(e, e + 3);
        }

        /** Ties two ENDS; 1 if that closes a circle. The tied ENDS keep their far ones for untie. */
        private int tie(int e, int f) {
            if (far[e] == f) {
                return 1;
            }
            far[far[e]] = far[f];
            far[far[f]] = far[e];
            return 0;
        }

        private void untie(int e, int f) {
            if (far[e] != f) {
                far[far[e]] = e;
                far[far[f]] = f;
            }
        }
    }

    /** COLOURS: how many numbers for STRANDS are free, by elimination. */
    private static final class Colouring {
        private static final int MOST_STRANDS = 2 * MOST_CROSSINGS;

        private final int[] strandOf = new int[ENDS];
        private final int[][] rows = new int[MOST_CROSSINGS][MOST_STRANDS];
        private int strands;

        int powerOf(Look look, int m) {
            if (m < 2) {
                return 0;
            }
            findStrands(look);
            for (int c = 0; c < look.size; c++) {
                int[] row = rows[c];
                Arrays.fill(row, 0);
                row[strandOf[4 * c]]++;
                row[strandOf[4 * c + 2]]++;
                int upper = strandOf[4 * c + 1];
                row[upper] = Math.floorMod(row[upper] - 2, m);
            }
            return strands - rank(look.size, m) + look.loops;
        }

        private void findStrands(Look look) {
            Arrays.fill(strandOf, NONE);
            strands = 0;
            for (int e = 0; e < 4 * look.size; e++) {
                if (strandOf[e] >= 0) {
                    continue;
                }
                walkStrand(look, e);
                if ((e & 1) == 1) {
                    walkStrand(look, corner(e, 2));
                }
                strands++;
            }
        }

        private void walkStrand(Look look, int from) {
            int out = from;
            for (int n = 0; n < ENDS && strandOf[out] < 0; n++) {
                int in = look.mate[out];
                strandOf[out] = strands;
                strandOf[in] = strands;
                if ((in & 1) == 0) {
                    return;
                }
                out = corner(in, 2);
            }
        }

        private int rank(int height, int m) {
            int rank = 0;
            for (int column = 0; column < strands && rank < height; column++) {
                int pivot = pivotOf(column, rank, height);
                if (pivot >= 0) {
                    int[] kept = rows[pivot];
                    rows[pivot] = rows[rank];
                    rows[rank] = kept;
                    clearBelow(column, rank, height, m);
                    rank++;
                }
            }
            return rank;
        }

        private int pivotOf(int column, int from, int height) {
            for (int r = from; r < height; r++) {
                if (rows[r][column] != 0) {
                    return r;
                }
            }
            return NONE;
        }

        /** m is a prime, so what is not 0 has an inverse. */
        private static int inverse(int v, int m) {
            for (int t = 1; t < m; t++) {
                if (t * v % m == 1) {
                    return t;
                }
            }
            return 0;
        }

        private void clearBelow(int column, int top, int height, int m) {
            int[] upper = rows[top];
            int scale = inverse(upper[column], m);
            for (int r = top + 1; r < height; r++) {
                int[] row = rows[r];
                int times = m - row[column] * scale % m;
                if (times == m) {
                    continue;
                }
                for (int k = column; k < strands; k++) {
                    row[k] = (row[k] + times * upper[k]) % m;
                }
            }
        }
    }

    /** Finds whether two pictures of as many CROSSINGS are LIKE, by their OTHER ENDS alone. */
    private static final class Likeness {
        /** Of a CROSSING of the one: the END of the other that its END 0 becomes. */
        private final int[] image = new int[MOST_CROSSINGS];
        private final int[] taken = new int[MOST_CROSSINGS];
        private final int[] queue = new int[MOST_CROSSINGS];
        private int known;

        /** PARTS can be matched one by one, as all that are LIKE one PART are LIKE each other. */
        boolean holds(int[] mates, int[] others, int size) {
            Arrays.fill(image, NONE);
            Arrays.fill(taken, 0);
            for (int c = 0; c < size; c++) {
                if (image[c] < 0 && !findsPart(mates, others, size, c)) {
                    return false;
                }
            }
            return true;
        }

        private boolean findsPart(int[] mates, int[] others, int size, int c) {
            for (int e = 0; e < 4 * size; e += 2) {
                if (taken[e >> 2] == 0) {
                    known = 0;
                    assign(c, e);
                    if (spreads(mates, others)) {
                        return true;
                    }
                    withdraw();
                }
            }
            return false;
        }

        private void assign(int c, int e) {
            image[c] = e;
            taken[e >> 2] = 1;
            queue[known] = c;
            known++;
        }

        private void withdraw() {
            for (int k = 0; k < known; k++) {
                int c = queue[k];
                taken[image[c] >> 2] = 0;
                image[c] = NONE;
            }
        }

        /** Whether what is assigned so far can be followed along every ARC without a contradiction. */
        private boolean spreads(int[] mates, int[] others) {
            for (int done = 0; done < known && done < MOST_CROSSINGS; done++) {
                int c = queue[done];
                for (int i = 0; i < 4; i++) {
                    int to = mates[4 * c + i];
                    int e = others[corner(image[c], i)];
                    int base = corner(e, 4 - (to & 3));
                    int next = to >> 2;
                    if ((base & 1) == 1) {
                        return false;
                    }
                    if (image[next] < 0 && taken[e >> 2] == 0) {
                        assign(next, base);
                    } else if (image[next] != base) {
                        return false;
                    }
                }
            }
            return true;
        }
    }

    /** A STATE of the SEARCH. */
    private static final class State {
        private static final int WIDTH = 4 * SEARCH_CROSSINGS;

        private final int[] arcs = new int[WIDTH];
        private final int[] mates = new int[WIDTH];
        private int size;
        private int loops;
        private int mark;
        private int parent;
        private int lead;

        /** Holds a PICTURE of 12 CROSSINGS at most, whose REGIONS the Look has found. */
        void hold(Picture picture, Look look) {
            size = Math.min(picture.size, SEARCH_CROSSINGS);
            loops = picture.loops;
            mark = look.likenessMark();
            System.arraycopy(picture.arcs, 0, arcs, 0, 4 * size);
            System.arraycopy(look.mate, 0, mates, 0, 4 * size);
        }

        void pourInto(Picture picture) {
            picture.empty();
            picture.loops = loops;
            for (int c = 0; c < size; c++) {
                picture.add(arcs[4 * c], arcs[4 * c + 1], arcs[4 * c + 2], arcs[4 * c + 3]);
            }
        }

        boolean sharesMark(State other) {
            return mark == other.mark && size == other.size && loops == other.loops;
        }
    }

    /** The SEARCH: its STATES, and where it stands among them. */
    private static final class Search {
        private static final int MOST_TURNS = MOST_STATES * (3 * State.WIDTH + 1);

        private final State[] states = new State[MOST_STATES];
        private final State target = new State();
        private final Likeness likeness = new Likeness();
        private final Numbers ways = new Numbers(MOST_STATES);
        private final Picture base = new Picture();
        private final Picture next = new Picture();
        private final Look baseLook = new Look();
        private final Look nextLook = new Look();
        private boolean begun;
        private boolean ended;
        private boolean aiming;
        private int count;
        private int steps;
        private int current;
        private int slot;
        private int found;

        /** Begins with a WHOLE PICTURE of 12 CROSSINGS at most. */
        void begin(Picture picture) {
            begun = true;
            ended = false;
            aiming = false;
            found = NONE;
            count = 0;
            steps = 0;
            next.take(picture);
            keep(NONE, NONE);
            enter(0);
        }

        /** Has the search look for a PICTURE; one with too many CROSSINGS is LIKE no STATE anyway. */
        void aimAt(Picture picture) {
            aiming = picture.size <= SEARCH_CROSSINGS;
            if (!aiming) {
                return;
            }
            nextLook.pairUp(picture);
            nextLook.findRegions();
            target.hold(picture, nextLook);
            if (states[0].sharesMark(target) && likeness.holds(states[0].mates, target.mates, target.size)) {
                found = 0;
            }
        }

        /** Ends the looking, tells the ways if it was found; whether it was. */
        boolean takeAim() {
            boolean hit = found >= 0;
            if (hit) {
                tellWays(found);
            }
            aiming = false;
            found = NONE;
            return hit;
        }

        /** Goes up to some STEPS, or to what is looked for: how many were gone. */
        int go(int limit) {
            int gone = 0;
            for (int turn = 0; turn <= MOST_TURNS && gone < limit && found < 0; turn++) {
                if (slot >= 3 * 4 * base.size) {
                    if (!enterNext()) {
                        break;
                    }
                    continue;
                }
                int way = slot;
                slot++;
                if (!Move.seemsOpen(baseLook, way)) {
                    continue;
                }
                next.take(base);
                if (Move.takeStep(next, baseLook, way)) {
                    gone++;
                    keep(current, way);
                }
            }
            steps += gone;
            return gone;
        }

        /** Goes over to the next STATE; without one the SEARCH is ENDED. */
        private boolean enterNext() {
            ended = current + 1 >= count;
            if (!ended) {
                enter(current + 1);
            }
            return !ended;
        }

        private void enter(int k) {
            current = k;
            slot = 0;
            states[k].pourInto(base);
            baseLook.pairUp(base);
        }

        /** Keeps what came of a STEP, if it is new; the STATE behind the last one serves as scratch. */
        private void keep(int parent, int lead) {
            if (count >= MOST_STATES) {
                return;
            }
            if (states[count] == null) {
                states[count] = new State();
            }
            State fresh = states[count];
            nextLook.pairUp(next);
            nextLook.findRegions();
            fresh.hold(next, nextLook);
            for (int k = 0; k < count; k++) {
                if (states[k].sharesMark(fresh) && likeness.holds(states[k].mates, fresh.mates, fresh.size)) {
                    return;
                }
            }
            fresh.parent = parent;
            fresh.lead = lead;
            count++;
            if (aiming && fresh.sharesMark(target) && likeness.holds(fresh.mates, target.mates, target.size)) {
                found = count - 1;
            }
        }

        /** The first STATE with the fewest CROSSINGS. */
        int smallest() {
            int best = 0;
            for (int k = 1; k < count; k++) {
                if (states[k].size < states[best].size) {
                    best = k;
                }
            }
            return best;
        }

        void tellWays(int to) {
            ways.empty();
            int k = to;
            for (int n = 0; n < MOST_STATES && k > 0; n++) {
                ways.add(states[k].lead);
                k = states[k].parent;
            }
            ways.reverse();
        }
    }

    /** The book of names. */
    private static final class Book {
        private final long[] names = new long[MOST_NAMES];
        private final Laurent[] polynomials = new Laurent[MOST_NAMES];
        private int count;

        boolean has(long wanted) {
            for (int k = 0; k < count; k++) {
                if (names[k] == wanted) {
                    return true;
                }
            }
            return false;
        }

        void add(long fresh, Laurent polynomial) {
            if (count >= MOST_NAMES) {
                return;
            }
            names[count] = fresh;
            polynomials[count] = new Laurent();
            polynomials[count].take(polynomial);
            count++;
        }

        /** The name told first for a POLYNOMIAL, or 0. */
        long firstFor(Laurent polynomial) {
            for (int k = 0; k < count; k++) {
                if (polynomials[k].isAs(polynomial)) {
                    return names[k];
                }
            }
            return 0;
        }
    }
}
