import java.util.ArrayDeque;
import java.util.ArrayList;
import java.util.Arrays;
import java.util.Collections;
import java.util.LinkedHashMap;
import java.util.List;
import java.util.Map;
import java.util.TreeMap;
import java.util.TreeSet;

/**
 * The document once more, slow and word by word, with the whole Java library: what KnotTable answers
 * is compared with it. Where the class is clever (LIKE, BRACKET, COLOURS) it goes another way.
 */
final class Oracle {
    private static final int BAD = -2, FULL = -3, LACKING = -11, BEYOND = -12, OPEN = -13, UNFIT = -14;
    private static final int NOT = -15, EMPTY = -16, GREAT = -17, MANY = -18, SPENT = -19;

    /** Carries a refusal out of the depth of a call. */
    private static final class Refusal extends RuntimeException {
        private static final long serialVersionUID = 1;
        private final int why;

        Refusal(int why) {
            super(null, null, false, false);
            this.why = why;
        }
    }

    private static final class End {
        private final int c;
        private final int i;

        End(int c, int i) {
            this.c = c;
            this.i = ((i % 4) + 4) % 4;
        }

        End on(int k) {
            return new End(c, i + k);
        }

        boolean is(End other) {
            return c == other.c && i == other.i;
        }

        int number() {
            return 4 * c + i;
        }
    }

    private static final class Pic {
        private List<int[]> rows = new ArrayList<>();
        private int loose;
        private final ArrayDeque<Pic> past = new ArrayDeque<>();

        Pic twin() {
            Pic other = new Pic();
            for (int[] row : rows) {
                other.rows.add(row == null ? null : row.clone());
            }
            other.loose = loose;
            return other;
        }

        int arc(End e) {
            return rows.get(e.c)[e.i];
        }

        void set(End e, int arc) {
            rows.get(e.c)[e.i] = arc;
        }

        boolean hasEnd(int e) {
            return e >= 0 && e < 4 * rows.size();
        }

        End at(int e) {
            return new End(e / 4, e % 4);
        }

        List<End> ends() {
            List<End> all = new ArrayList<>();
            for (int c = 0; c < rows.size(); c++) {
                for (int i = 0; i < rows.get(c).length; i++) {
                    all.add(new End(c, i));
                }
            }
            return all;
        }

        End other(End e) {
            for (End f : ends()) {
                if (!f.is(e) && arc(f) == arc(e)) {
                    return f;
                }
            }
            throw new IllegalStateException("an end alone");
        }

        List<End> region(End e) {
            List<End> round = new ArrayList<>();
            End f = e;
            do {
                round.add(f);
                f = other(f).on(3);
            } while (!f.is(e));
            return round;
        }

        int free() {
            TreeSet<Integer> used = new TreeSet<>();
            for (int[] row : rows) {
                if (row != null) {
                    for (int arc : row) {
                        used.add(arc);
                    }
                }
            }
            int least = 0;
            while (used.contains(least)) {
                least++;
            }
            return least;
        }

        int[] free(int n) {
            Pic scratch = twin();
            int[] found = new int[n];
            for (int k = 0; k < n; k++) {
                found[k] = scratch.free();
                scratch.rows.add(new int[] {found[k]});
            }
            return found;
        }

        void fuse(int y, int z) {
            if (y == z) {
                loose++;
                return;
            }
            for (End e : ends()) {
                if (arc(e) == z) {
                    set(e, y);
                }
            }
        }

        /** {why, place}. */
        int[] open() {
            for (int c = 0; c < rows.size(); c++) {
                if (rows.get(c) == null || rows.get(c).length < 4) {
                    return new int[] {1, c};
                }
            }
            for (End e : ends()) {
                if (arc(e) == -1) {
                    return new int[] {2, e.c};
                }
            }
            for (End e : ends()) {
                int times = 0;
                for (End f : ends()) {
                    times += arc(f) == arc(e) ? 1 : 0;
                }
                if (times != 2) {
                    return new int[] {3, e.c};
                }
            }
            return new int[] {regions() == rows.size() + 2 * parts().size() ? 0 : 4, -1};
        }

        int regions() {
            int count = 0;
            for (End e : ends()) {
                int least = e.number();
                for (End f : region(e)) {
                    least = Math.min(least, f.number());
                }
                count += least == e.number() ? 1 : 0;
            }
            return count;
        }

        List<TreeSet<Integer>> parts() {
            List<TreeSet<Integer>> parts = new ArrayList<>();
            TreeSet<Integer> seen = new TreeSet<>();
            for (int c = 0; c < rows.size(); c++) {
                if (!seen.contains(c)) {
                    TreeSet<Integer> part = new TreeSet<>();
                    ArrayDeque<Integer> next = new ArrayDeque<>();
                    next.add(c);
                    while (!next.isEmpty()) {
                        int d = next.remove();
                        if (part.add(d)) {
                            for (int i = 0; i < 4; i++) {
                                next.add(other(new End(d, i)).c);
                            }
                        }
                    }
                    seen.addAll(part);
                    parts.add(part);
                }
            }
            return parts;
        }

        /** Of each PIECE the ENDS in order: out, in, out, in, .. */
        List<List<End>> pieces() {
            List<List<End>> pieces = new ArrayList<>();
            TreeSet<Integer> seen = new TreeSet<>();
            for (End e : ends()) {
                if (!seen.contains(e.number())) {
                    List<End> piece = new ArrayList<>();
                    End out = e;
                    do {
                        End in = other(out);
                        piece.add(out);
                        piece.add(in);
                        seen.add(out.number());
                        seen.add(in.number());
                        out = in.on(2);
                    } while (!out.is(e));
                    pieces.add(piece);
                }
            }
            return pieces;
        }

        boolean comesIn(End e) {
            for (List<End> piece : pieces()) {
                for (int k = 1; k < piece.size(); k += 2) {
                    if (piece.get(k).is(e)) {
                        return true;
                    }
                }
            }
            return false;
        }

        int sign(int c) {
            int i = comesIn(new End(c, 0)) ? 0 : 2;
            return comesIn(new End(c, i + 3)) ? 1 : -1;
        }

        int writhe() {
            int sum = 0;
            for (int c = 0; c < rows.size(); c++) {
                sum += sign(c);
            }
            return sum;
        }

        /** A text that LIKE pictures share, and no others. */
        String canon() {
            List<String> texts = new ArrayList<>();
            for (TreeSet<Integer> part : parts()) {
                String best = null;
                for (int c : part) {
                    for (int spin = 0; spin < 4; spin += 2) {
                        String text = code(new End(c, spin));
                        best = best == null || text.compareTo(best) < 0 ? text : best;
                    }
                }
                texts.add(best);
            }
            Collections.sort(texts);
            return loose + " " + texts;
        }

        private String code(End root) {
            Map<Integer, Integer> number = new LinkedHashMap<>();
            List<End> bases = new ArrayList<>();
            number.put(root.c, 0);
            bases.add(root);
            StringBuilder text = new StringBuilder();
            for (int k = 0; k < bases.size(); k++) {
                for (int i = 0; i < 4; i++) {
                    End to = other(bases.get(k).on(i));
                    if (!number.containsKey(to.c)) {
                        number.put(to.c, bases.size());
                        bases.add(new End(to.c, to.i & 2));
                    }
                    End base = bases.get(number.get(to.c));
                    text.append(number.get(to.c)).append('.').append((to.i - base.i + 4) % 4).append(' ');
                }
            }
            return text.toString();
        }

        TreeMap<Integer, Long> bracket() {
            TreeMap<Integer, Long> sum = new TreeMap<>();
            for (int ways = 0; ways < 1 << rows.size(); ways++) {
                Pic left = twin();
                int power = 0;
                for (int c = 0; c < rows.size(); c++) {
                    int way = ways >> c & 1;
                    power += way == 0 ? 1 : -1;
                    left.fuse(left.rows.get(c)[0], left.rows.get(c)[way == 0 ? 1 : 3]);
                    left.fuse(left.rows.get(c)[way == 0 ? 2 : 1], left.rows.get(c)[way == 0 ? 3 : 2]);
                }
                long times = 1;
                int k = left.loose - 1;
                for (int j = 0; j <= k; j++) {
                    sum.merge(power + 2 * k - 4 * j, (k % 2 == 0 ? 1 : -1) * times, Long::sum);
                    times = times * (k - j) / (j + 1);
                }
            }
            sum.values().removeIf(v -> v == 0);
            return sum;
        }

        TreeMap<Integer, Long> polynomial() {
            int writhe = writhe();
            TreeMap<Integer, Long> told = new TreeMap<>();
            for (Map.Entry<Integer, Long> one : bracket().entrySet()) {
                told.put(one.getKey() - 3 * writhe, writhe % 2 == 0 ? one.getValue() : -one.getValue());
            }
            return told;
        }

        int colours(int m) {
            int[] strand = new int[100];
            TreeSet<Integer> all = new TreeSet<>();
            Arrays.setAll(strand, k -> k);
            for (int[] row : rows) {
                int from = strand[row[1]];
                int to = strand[row[3]];
                Arrays.setAll(strand, k -> strand[k] == from ? to : strand[k]);
            }
            List<int[]> basis = new ArrayList<>();
            for (int[] row : rows) {
                int[] line = new int[100];
                line[strand[row[0]]] += 1;
                line[strand[row[2]]] += 1;
                line[strand[row[1]]] += 2 * m - 2;
                for (int arc : row) {
                    all.add(strand[arc]);
                }
                reduce(basis, line, m);
            }
            return all.size() - basis.size() + loose;
        }

        private static void reduce(List<int[]> basis, int[] line, int m) {
            for (int k = 0; k < line.length; k++) {
                line[k] %= m;
            }
            for (int[] base : basis) {
                int lead = 0;
                while (base[lead] == 0) {
                    lead++;
                }
                while (line[lead] != 0) {
                    for (int k = 0; k < line.length; k++) {
                        line[k] = (line[k] + base[k]) % m;
                    }
                }
            }
            for (int v : line) {
                if (v != 0) {
                    basis.add(line);
                    return;
                }
            }
        }
    }

    private static final class State {
        private Pic pic;
        private String canon;
        private int parent;
        private int lead;
    }

    private final List<Pic> pictures = new ArrayList<>();
    private final List<int[]> moves = new ArrayList<>();
    private final List<Integer> tape = new ArrayList<>();
    private final List<Integer> bodies = new ArrayList<>();
    private final List<Integer> ways = new ArrayList<>();
    private final Map<Long, TreeMap<Integer, Long>> book = new LinkedHashMap<>();
    private final int[] found = new int[10];
    private TreeMap<Integer, Long> result;
    private List<State> states;
    private boolean ended;
    private int steps;
    private int current;
    private int slot;
    private int where = -1;
    private int parted;
    private int work;
    private int status;

    private final int mostStates;

    Oracle() {
        this(100);
    }

    /** With another limit of STATES than the document's: so it tells how many there would be. */
    Oracle(int mostStates) {
        this.mostStates = mostStates;
    }

    int looseOfState(int k) {
        return states.get(k).pic.loose;
    }

    int[][] rowsOfState(int k) {
        return states.get(k).pic.rows.toArray(new int[0][]);
    }

    // ---- how any call is answered: by its name and numbers

    long call(String name, long... n) {
        int[] v = new int[7];
        for (int k = 0; k < n.length; k++) {
            v[k] = (int) n[k];
        }
        switch (name) {
            case "at": return result == null ? 0 : result.getOrDefault(v[0], 0L);
            case "where": return where;
            case "item": return v[0] >= 0 && v[0] < tape.size() ? tape.get(v[0]) : BAD;
            case "trace": return v[0] >= 0 && v[0] < bodies.size() ? bodies.get(v[0]) : -1;
            case "parted": return parted;
            case "way": return v[0] >= 0 && v[0] < ways.size() ? ways.get(v[0]) : -1;
            case "status": return status;
            case "findings": return v[0] >= 1 && v[0] <= 9 ? found[v[0]] : BAD;
            case "count": return count(v[0]);
            default: break;
        }
        try {
            long answer = answer(name, v, n);
            status = 0;
            return answer;
        } catch (Refusal refusal) {
            status = refusal.why;
            if (refusal.why <= -11) {
                found[-10 - refusal.why]++;
            }
            return refusal.why;
        }
    }

    private long count(int what) {
        int[] all = {pictures.size(), moves.size(), book.size(), tape.size(), work};
        return what >= 0 && what < 5 ? all[what] : BAD;
    }

    private long answer(String name, int[] v, long[] n) {
        switch (name) {
            case "picture": return added(new Pic());
            case "crossing": return crossing(v);
            case "row": return row(v);
            case "end": return reach(pic(v[0]), v[1], v[2])[v[2]];
            case "put": return put(v);
            case "copy": return copy(v);
            case "loose": return loose(v);
            case "open": return open(v[0]);
            case "told": return told(v[0], v[1]);
            case "mirror": return turned(v[0], new int[] {1, 2, 3, 0});
            case "turn": return turned(v[0], new int[] {1, 0, 3, 2});
            case "join": return join(v[0], v[1], v[2], v[3]);
            case "twin": return added(pic(v[0]).twin());
            case "undo": return undo(pic(v[0]));
            case "sign": return ofCrossing(whole(v[0]), v[1]);
            case "pieceOf": return pieceOf(whole(v[0]), v[1]);
            case "linking": return linking(whole(v[0]), v[1], v[2]);
            case "colours": return colours(v[0], v[1]);
            case "bracket": return kept(bracketOf(v[0]));
            case "polynomial": return kept(polynomialOf(v[0], 14));
            case "power": return power(v[0]);
            case "determinant": return determinant(bracketOf(v[0]));
            case "gauss": return gauss(whole(v[0]));
            case "type": return type(v[0]);
            case "clear": return cleared();
            case "ofGauss": return ofGauss();
            case "move": return move(v);
            case "tells": return tells(v[0], v[1]);
            case "as": return as(v[0], v[1]);
            case "may": return tried(v[0], v[1], false) == null ? 0 : 1;
            case "does": return done(v[0], tried(v[0], v[1], false));
            case "undoes": return done(v[0], tried(v[0], v[1], true));
            case "like": return like(v[0], v[1]);
            case "search": return search(v[0], v[1]);
            case "goOn": return goOn(v[0]);
            case "searched": return searched(v[0]);
            case "fewer": return fewer();
            case "same": return same(v[0], v[1], v[2]);
            case "check": return check(v[0]);
            case "book": return book(v[0], n[1]);
            case "name": return nameOf(v[0]);
            case "digest": return digest();
            default: throw new IllegalStateException(name);
        }
    }

    private static void need(boolean so, int why) {
        if (!so) {
            throw new Refusal(why);
        }
    }

    private Pic pic(int p) {
        need(p >= 0 && p < pictures.size(), BAD);
        return pictures.get(p);
    }

    private Pic whole(int p) {
        Pic pic = pic(p);
        need(pic.open()[0] == 0, OPEN);
        return pic;
    }

    private int added(Pic pic) {
        need(pictures.size() < 24, FULL);
        pictures.add(pic);
        return pictures.size() - 1;
    }

    private static void isArc(int arc) {
        need(arc >= -1 && arc <= 99, BAD);
    }

    // ---- pictures

    private int crossing(int[] v) {
        Pic pic = pic(v[0]);
        for (int k = 1; k < 5; k++) {
            isArc(v[k]);
        }
        need(pic.rows.size() < 40, FULL);
        pic.rows.add(Arrays.copyOfRange(v, 1, 5));
        pic.past.clear();
        return pic.rows.size() - 1;
    }

    private int row(int[] v) {
        Pic pic = pic(v[0]);
        need(v[2] >= -1 && v[2] <= 4, BAD);
        need(v[1] >= 0 && v[1] < pic.rows.size(), BEYOND);
        int[] old = pic.rows.get(v[1]);
        int[] fresh = null;
        if (v[2] >= 0) {
            fresh = new int[v[2]];
            for (int i = 0; i < v[2]; i++) {
                fresh[i] = old != null && i < old.length ? old[i] : -1;
            }
        }
        pic.rows.set(v[1], fresh);
        pic.past.clear();
        return 1;
    }

    private static int[] reach(Pic pic, int c, int i) {
        need(c >= 0 && c < pic.rows.size(), BEYOND);
        need(pic.rows.get(c) != null, LACKING);
        need(i >= 0 && i < pic.rows.get(c).length, BEYOND);
        return pic.rows.get(c);
    }

    private int put(int[] v) {
        Pic pic = pic(v[0]);
        isArc(v[3]);
        reach(pic, v[1], v[2])[v[2]] = v[3];
        pic.past.clear();
        return 1;
    }

    private int copy(int[] v) {
        Pic from = pic(v[0]);
        Pic to = pic(v[3]);
        need(v[1] >= 0 && v[1] < from.rows.size() && v[4] >= 0 && v[4] < to.rows.size(), BEYOND);
        int[] source = from.rows.get(v[1]);
        int[] target = to.rows.get(v[4]);
        need(source != null && target != null, LACKING);
        need(v[2] >= 0 && v[5] >= 0 && v[6] >= 0, BEYOND);
        need((long) v[2] + v[6] <= source.length && (long) v[5] + v[6] <= target.length, BEYOND);
        int[] taken = Arrays.copyOfRange(source, v[2], v[2] + v[6]);
        for (int k = 0; k < v[6]; k++) {
            target[v[5] + k] = taken[k];
        }
        to.past.clear();
        return 1;
    }

    private int loose(int[] v) {
        Pic pic = pic(v[0]);
        need(v[1] >= 0 && v[1] <= 9, BAD);
        int before = pic.loose;
        pic.loose = v[1];
        pic.past.clear();
        return before;
    }

    private int open(int p) {
        int[] told = pic(p).open();
        where = told[1];
        return told[0];
    }

    private int told(int p, int what) {
        Pic pic = pic(p);
        need(what >= 0 && what <= 5, BAD);
        if (what < 2) {
            return what == 0 ? pic.rows.size() : pic.loose;
        }
        whole(p);
        return what == 2 ? allPieces(pic) : what == 3 ? pic.regions() : what == 4 ? pic.parts().size() : pic.writhe();
    }

    private static int allPieces(Pic pic) {
        return pic.pieces().size() + pic.loose;
    }

    private static void remember(Pic pic) {
        pic.past.addLast(pic.twin());
        if (pic.past.size() > 10) {
            pic.past.removeFirst();
        }
    }

    private static void reorder(Pic pic, int c, int[] order) {
        int[] row = pic.rows.get(c);
        pic.rows.set(c, new int[] {row[order[0]], row[order[1]], row[order[2]], row[order[3]]});
    }

    private int turned(int p, int[] order) {
        Pic pic = whole(p);
        remember(pic);
        for (int c = 0; c < pic.rows.size(); c++) {
            reorder(pic, c, order);
        }
        return 1;
    }

    private int join(int p, int a, int q, int b) {
        pic(p);
        pic(q);
        need(pictures.size() < 24, FULL);
        Pic one = whole(p);
        Pic two = whole(q);
        need(one.hasEnd(a) && two.hasEnd(b), NOT);
        need(one.rows.size() + two.rows.size() <= 40 && one.loose + two.loose <= 9, MANY);
        Pic both = one.twin();
        both.loose += two.loose;
        Map<Integer, Integer> renamed = new LinkedHashMap<>();
        for (int[] row : two.rows) {
            int[] fresh = {-1, -1, -1, -1};
            both.rows.add(fresh);
            for (int i = 0; i < 4; i++) {
                if (!renamed.containsKey(row[i])) {
                    renamed.put(row[i], both.free());
                }
                fresh[i] = renamed.get(row[i]);
            }
        }
        End endA = both.at(a);
        End endB = both.at(b + 4 * one.rows.size());
        End otherA = both.other(endA);
        End otherB = both.other(endB);
        both.set(endB, both.arc(endA));
        int z = both.free();
        both.set(otherA, z);
        both.set(otherB, z);
        return added(both);
    }

    private static int undo(Pic pic) {
        need(!pic.past.isEmpty(), NOT);
        Pic before = pic.past.removeLast();
        pic.rows = before.rows;
        pic.loose = before.loose;
        return pic.past.size();
    }

    // ---- numbers

    private static int ofCrossing(Pic pic, int c) {
        need(c >= 0 && c < pic.rows.size(), BEYOND);
        return pic.sign(c);
    }

    private static int pieceOf(Pic pic, int e) {
        need(pic.hasEnd(e), BEYOND);
        List<List<End>> pieces = pic.pieces();
        for (int k = 0; k < pieces.size(); k++) {
            for (End f : pieces.get(k)) {
                if (f.number() == e) {
                    return k;
                }
            }
        }
        throw new IllegalStateException("an end of no piece");
    }

    private static int linking(Pic pic, int i, int j) {
        int all = allPieces(pic);
        need(i >= 0 && i < all && j >= 0 && j < all && i != j, NOT);
        int sum = 0;
        for (int c = 0; c < pic.rows.size(); c++) {
            int lower = pieceOf(pic, 4 * c);
            int upper = pieceOf(pic, 4 * c + 1);
            sum += lower == i && upper == j || lower == j && upper == i ? pic.sign(c) : 0;
        }
        return sum / 2;
    }

    private int colours(int p, int m) {
        pic(p);
        need(m == 3 || m == 5 || m == 7 || m == 11, BAD);
        return whole(p).colours(m);
    }

    private Pic affordable(int p, int limit) {
        Pic pic = whole(p);
        need(!pic.rows.isEmpty() || pic.loose > 0, EMPTY);
        need(pic.rows.size() <= limit, GREAT);
        need(work + (1 << pic.rows.size()) <= 1000000, SPENT);
        return pic;
    }

    private TreeMap<Integer, Long> bracketOf(int p) {
        Pic pic = affordable(p, 14);
        work += 1 << pic.rows.size();
        return pic.bracket();
    }

    private TreeMap<Integer, Long> polynomialOf(int p, int limit) {
        Pic pic = affordable(p, limit);
        work += 1 << pic.rows.size();
        return pic.polynomial();
    }

    private int kept(TreeMap<Integer, Long> made) {
        result = made;
        return made.size();
    }

    private int power(int what) {
        need(what == 0 || what == 1, BAD);
        need(result != null, NOT);
        return what == 0 ? result.firstKey() : result.lastKey();
    }

    private static long determinant(TreeMap<Integer, Long> made) {
        long sum = 0;
        for (Map.Entry<Integer, Long> one : made.entrySet()) {
            int above = one.getKey() - made.firstKey();
            sum += above % 8 == 0 ? one.getValue() : above % 8 == 4 ? -one.getValue() : 0;
        }
        return Math.abs(sum);
    }

    private int gauss(Pic pic) {
        tape.clear();
        for (List<End> piece : pic.pieces()) {
            for (int k = 1; k < piece.size(); k += 2) {
                End in = piece.get(k);
                tape.add(4 * in.c + (in.i % 2 == 1 ? 2 : 0) + (pic.sign(in.c) == 1 ? 1 : 0));
            }
            tape.add(-1);
        }
        tape.add(-2 - pic.loose);
        return tape.size();
    }

    private int type(int v) {
        need(tape.size() < 130, FULL);
        tape.add(v);
        return tape.size();
    }

    private int cleared() {
        int before = tape.size();
        tape.clear();
        return before;
    }

    private int ofGauss() {
        need(pictures.size() < 24, FULL);
        need(!tape.isEmpty(), NOT);
        int last = tape.get(tape.size() - 1);
        need(last <= -2 && last >= -11, NOT);
        List<List<Integer>> pieces = new ArrayList<>();
        List<Integer> passes = new ArrayList<>();
        List<Integer> piece = new ArrayList<>();
        for (int v : tape.subList(0, tape.size() - 1)) {
            need(v >= -1, NOT);
            if (v == -1) {
                need(!piece.isEmpty(), NOT);
                pieces.add(piece);
                piece = new ArrayList<>();
            } else {
                piece.add(v);
                passes.add(v);
            }
        }
        need(piece.isEmpty() && passes.size() % 2 == 0 && passes.size() <= 80, NOT);
        Pic pic = new Pic();
        pic.loose = -2 - last;
        for (int c = 0; c < passes.size() / 2; c++) {
            need(Collections.frequency(passes, 4 * c) == 1 && Collections.frequency(passes, 4 * c + 2) == 1
                    || Collections.frequency(passes, 4 * c + 1) == 1 && Collections.frequency(passes, 4 * c + 3) == 1, NOT);
            pic.rows.add(new int[4]);
        }
        for (int v : passes) {
            need(v / 4 < passes.size() / 2, NOT);
            need(Collections.frequency(passes, v) == 1 && Collections.frequency(passes, v ^ 1) == 0, NOT);
        }
        int first = 0;
        for (List<Integer> one : pieces) {
            for (int k = 0; k < one.size(); k++) {
                int v = one.get(k);
                int in = first + (k + one.size() - 1) % one.size();
                int out = first + k;
                int[] row = pic.rows.get(v / 4);
                boolean over = v / 2 % 2 == 1;
                int enters = over ? v % 2 == 1 ? 3 : 1 : 0;
                row[enters] = in;
                row[(enters + 2) % 4] = out;
            }
            first += one.size();
        }
        need(pic.open()[0] == 0, NOT);
        return added(pic);
    }

    // ---- moves

    private int move(int[] v) {
        need(v[0] >= 0 && v[0] <= 5, BAD);
        need(moves.size() < 60, FULL);
        moves.add(Arrays.copyOf(v, 4));
        return moves.size() - 1;
    }

    private int[] moveOf(int m) {
        need(m >= 0 && m < moves.size(), BAD);
        return moves.get(m);
    }

    private int tells(int m, int what) {
        int[] move = moveOf(m);
        need(what >= 0 && what <= 5, BAD);
        bodies.clear();
        if (what < 4) {
            return move[what];
        }
        int[][] told = {{1}, {2, 1, 1}, {3}, {3}, {5}, {6}};
        int[] more = {1, 2, 0, 0, -1, 0};
        for (int body : told[move[0]]) {
            bodies.add(body);
        }
        return what == 4 ? more[move[0]] : more[move[0]] == 0 ? 1 : 0;
    }

    private int as(int m, int kind) {
        int own = moveOf(m)[0];
        need(kind >= 0 && kind <= 5, BAD);
        need(own == kind || own == kind + 1 && kind % 2 == 0, UNFIT);
        return 1;
    }

    private Pic tried(int p, int m, boolean back) {
        pic(p);
        int[] v = moveOf(m);
        need(!back || v[0] != 4, UNFIT);
        Pic pic = whole(p).twin();
        switch (v[0]) {
            case 0:
                if (back) {
                    untwist(pic, v[1]);
                } else {
                    twist(pic, v[1], v[2]);
                }
                break;
            case 1:
                if (back) {
                    unpoke(pic, v[1]);
                } else {
                    poke(pic, v[1], v[2], v[3]);
                }
                break;
            case 2:
                slide(pic, v[1], back ? 2 : 0);
                break;
            case 3:
                flype(pic, v[1], v[2], back ? 2 : 0);
                break;
            case 4:
                smooth(pic, v[1], v[2]);
                break;
            default:
                need(v[1] >= 0 && v[1] < pic.rows.size(), NOT);
                reorder(pic, v[1], back ? new int[] {3, 0, 1, 2} : new int[] {1, 2, 3, 0});
                break;
        }
        need(pic.rows.size() <= 40 && pic.loose <= 9, MANY);
        return pic;
    }

    private int done(int p, Pic fresh) {
        Pic pic = pictures.get(p);
        remember(pic);
        pic.rows = fresh.rows;
        pic.loose = fresh.loose;
        return 1;
    }

    private static void twist(Pic pic, int a, int sort) {
        need(a == -1 ? pic.loose > 0 : pic.hasEnd(a), NOT);
        need(sort >= 0 && sort <= 3, NOT);
        int x;
        int m;
        int z;
        if (a == -1) {
            int[] free = pic.free(2);
            x = free[0];
            m = free[1];
            z = x;
            pic.loose--;
        } else {
            int[] free = pic.free(2);
            x = pic.arc(pic.at(a));
            m = free[0];
            z = free[1];
            pic.set(pic.other(pic.at(a)), z);
        }
        int[][] sorts = {{x, m, m, z}, {x, z, m, m}, {m, m, z, x}, {z, m, m, x}};
        pic.rows.add(sorts[sort]);
    }

    private static void untwist(Pic pic, int a) {
        need(pic.hasEnd(a), NOT);
        End e = pic.at(a);
        need(pic.arc(e) == pic.arc(e.on(1)), NOT);
        pic.fuse(pic.arc(e.on(2)), pic.arc(e.on(3)));
        pic.rows.remove(e.c);
    }

    private static void poke(Pic pic, int a, int b, int c) {
        need(pic.hasEnd(a) && pic.hasEnd(b) && (c == 0 || c == 1), NOT);
        End e = pic.at(a);
        End f = pic.at(b);
        boolean together = false;
        for (End g : pic.region(e)) {
            together |= g.is(f);
        }
        int x = pic.arc(e);
        int y = pic.arc(f);
        need(together && x != y, NOT);
        int[] free = pic.free(4);
        int p = free[0];
        int q = free[1];
        int r = free[2];
        int s = free[3];
        End otherE = pic.other(e);
        End otherF = pic.other(f);
        pic.set(otherE, q);
        pic.set(otherF, s);
        pic.rows.add(c == 0 ? new int[] {r, p, s, x} : new int[] {x, r, p, s});
        pic.rows.add(c == 0 ? new int[] {y, p, r, q} : new int[] {q, y, p, r});
    }

    private static void unpoke(Pic pic, int a) {
        need(pic.hasEnd(a), NOT);
        End e = pic.at(a);
        List<End> region = pic.region(e);
        End f = pic.other(e);
        need(region.size() == 2 && region.get(0).c != region.get(1).c && e.i % 2 == f.i % 2, NOT);
        pic.fuse(pic.arc(e.on(2)), pic.arc(f.on(2)));
        pic.fuse(pic.arc(e.on(3)), pic.arc(f.on(1)));
        List<int[]> left = new ArrayList<>();
        for (int c = 0; c < pic.rows.size(); c++) {
            if (c != e.c && c != f.c) {
                left.add(pic.rows.get(c));
            }
        }
        pic.rows = left;
    }

    private static void slide(Pic pic, int a, int by) {
        need(pic.hasEnd(a), NOT);
        List<End> region = pic.region(pic.at(a).on(by));
        need(region.size() == 3, NOT);
        TreeSet<Integer> corners = new TreeSet<>();
        boolean over = false;
        for (End e : region) {
            corners.add(e.c);
            over |= e.i % 2 == 1 && pic.other(e).i % 2 == 1;
        }
        need(corners.size() == 3 && over, NOT);
        Pic was = pic.twin();
        for (End near : region) {
            End far = was.other(near);
            int e = was.arc(near);
            pic.set(near, was.arc(far.on(2)));
            pic.set(near.on(2), e);
            pic.set(far, was.arc(near.on(2)));
            pic.set(far.on(2), e);
        }
    }

    private static boolean isIn(int bits, End e) {
        return e.c <= 30 && (bits >> e.c & 1) == 1;
    }

    private static void flype(Pic pic, int a, int bits, int by) {
        need(pic.hasEnd(a), NOT);
        End at = pic.at(a).on(by);
        need(bits >= 0 && !isIn(bits, at), NOT);
        for (int c = 0; c <= 30; c++) {
            need((bits >> c & 1) == 0 || c < pic.rows.size(), NOT);
        }
        End w = pic.other(at);
        End n = pic.other(at.on(1));
        need(isIn(bits, w) && isIn(bits, n), NOT);
        int out = 0;
        for (End e : pic.ends()) {
            out += isIn(bits, e) && !isIn(bits, pic.other(e)) ? 1 : 0;
        }
        need(out == 4, NOT);
        End r = rim(pic, bits, n, 3);
        End s = rim(pic, bits, w, 1);
        need(!r.is(s) && !r.is(w) && !r.is(n) && !s.is(w) && !s.is(n), NOT);
        Pic was = pic.twin();
        pic.set(at, was.arc(s));
        pic.set(at.on(1), was.arc(r));
        pic.set(at.on(2), was.arc(at));
        pic.set(at.on(3), was.arc(at.on(1)));
        pic.set(w, was.arc(at.on(2)));
        pic.set(n, was.arc(at.on(3)));
        pic.set(s, was.arc(at));
        pic.set(r, was.arc(at.on(1)));
        for (int c = 0; c < pic.rows.size(); c++) {
            if (isIn(bits, new End(c, 0))) {
                reorder(pic, c, new int[] {1, 0, 3, 2});
            }
        }
    }

    private static End rim(Pic pic, int bits, End from, int k) {
        End e = from.on(k);
        for (int n = 0; n < 1000; n++) {
            if (!isIn(bits, pic.other(e))) {
                return e;
            }
            e = pic.other(e).on(k);
        }
        throw new Refusal(NOT);
    }

    private static void smooth(Pic pic, int c, int way) {
        need(c >= 0 && c < pic.rows.size() && (way == 0 || way == 1), NOT);
        int[] row = pic.rows.get(c);
        pic.fuse(row[0], row[way == 0 ? 1 : 3]);
        pic.fuse(row[way == 0 ? 2 : 1], row[way == 0 ? 3 : 2]);
        pic.rows.remove(c);
    }

    // ---- search

    private int like(int p, int q) {
        pic(p);
        pic(q);
        return whole(p).canon().equals(whole(q).canon()) ? 1 : 0;
    }

    private static Pic stepped(Pic from, int way) {
        Pic pic = from.twin();
        try {
            if (way % 3 == 0) {
                untwist(pic, way / 3);
            } else if (way % 3 == 1) {
                unpoke(pic, way / 3);
            } else {
                slide(pic, way / 3, 0);
            }
        } catch (Refusal refusal) {
            return null;
        }
        return pic.loose <= 9 ? pic : null;
    }

    private void begin(Pic pic) {
        states = new ArrayList<>();
        ended = false;
        steps = 0;
        current = 0;
        slot = 0;
        keep(pic.twin(), -1, -1);
    }

    private boolean keep(Pic pic, int parent, int lead) {
        String canon = pic.canon();
        for (State state : states) {
            if (state.canon.equals(canon)) {
                return false;
            }
        }
        if (states.size() >= mostStates) {
            return false;
        }
        State state = new State();
        state.pic = pic;
        state.canon = canon;
        state.parent = parent;
        state.lead = lead;
        states.add(state);
        return true;
    }

    /** Goes on; ends early when a STATE with the text that is looked for is kept. */
    private int run(int limit, String wanted) {
        int gone = 0;
        if (wanted != null && states.get(0).canon.equals(wanted)) {
            return 0;
        }
        while (gone < limit) {
            if (current >= states.size()) {
                ended = true;
                break;
            }
            Pic from = states.get(current).pic;
            if (slot >= 12 * from.rows.size()) {
                current++;
                slot = 0;
                continue;
            }
            Pic fresh = stepped(from, slot);
            slot++;
            if (fresh != null) {
                gone++;
                steps++;
                boolean isNew = keep(fresh, current, slot - 1);
                if (isNew && states.get(states.size() - 1).canon.equals(wanted)) {
                    break;
                }
            }
        }
        return gone;
    }

    private int search(int p, int n) {
        pic(p);
        need(n >= 0 && n <= 5000, BAD);
        Pic pic = whole(p);
        need(pic.rows.size() <= 12, GREAT);
        begin(pic);
        return run(n, null);
    }

    private int goOn(int n) {
        need(n >= 0 && n <= 5000, BAD);
        need(states != null, NOT);
        return run(n, null);
    }

    private int searched(int what) {
        need(what >= 0 && what <= 3, BAD);
        need(states != null, NOT);
        return what == 0 ? ended ? 1 : 0 : what == 1 ? states.size()
                : what == 2 ? states.get(fewest()).pic.rows.size() : steps;
    }

    private int fewest() {
        int best = 0;
        for (int k = 0; k < states.size(); k++) {
            best = states.get(k).pic.rows.size() < states.get(best).pic.rows.size() ? k : best;
        }
        return best;
    }

    private void tellWays(int to) {
        ways.clear();
        for (int k = to; k > 0; k = states.get(k).parent) {
            ways.add(0, states.get(k).lead);
        }
    }

    private int fewer() {
        need(pictures.size() < 24, FULL);
        need(states != null, NOT);
        tellWays(fewest());
        return added(states.get(fewest()).pic.twin());
    }

    private int parting(Pic one, Pic two) {
        if (allPieces(one) != allPieces(two)) {
            return 1;
        }
        int[] by = {3, 5, 7, 11};
        for (int k = 0; k < 4; k++) {
            if (one.colours(by[k]) != two.colours(by[k])) {
                return 2 + k;
            }
        }
        if (allPieces(one) == 1 && one.rows.size() <= 14 && two.rows.size() <= 14) {
            int cost = (1 << one.rows.size()) + (1 << two.rows.size());
            need(work + cost <= 1000000, SPENT);
            work += cost;
            return one.polynomial().equals(two.polynomial()) ? 0 : 6;
        }
        return 0;
    }

    private int same(int p, int q, int n) {
        pic(p);
        pic(q);
        need(n >= 0 && n <= 5000, BAD);
        Pic one = whole(p);
        Pic two = whole(q);
        need(one.rows.size() <= 12, GREAT);
        parted = parting(one, two);
        if (parted != 0) {
            return 0;
        }
        begin(one);
        String wanted = two.canon();
        run(n, wanted);
        for (int k = 0; k < states.size(); k++) {
            if (states.get(k).canon.equals(wanted)) {
                tellWays(k);
                return 1;
            }
        }
        return -1;
    }

    private int check(int p) {
        pic(p);
        need(pictures.size() < 24, FULL);
        Pic pic = whole(p).twin();
        for (int way : ways) {
            pic = stepped(pic, way);
            need(pic != null, NOT);
        }
        return added(pic);
    }

    // ---- the book

    private int book(int p, long name) {
        pic(p);
        need(name != 0, BAD);
        need(book.size() < 200, FULL);
        affordable(p, 10);
        need(!book.containsKey(name), NOT);
        book.put(name, polynomialOf(p, 10));
        return book.size();
    }

    private long nameOf(int p) {
        TreeMap<Integer, Long> wanted = polynomialOf(p, 10);
        for (Map.Entry<Long, TreeMap<Integer, Long>> one : book.entrySet()) {
            if (one.getValue().equals(wanted)) {
                return one.getKey();
            }
        }
        return 0;
    }

    private long digest() {
        long h = 17;
        for (Pic pic : pictures) {
            h = 31 * h + pic.loose;
            for (int[] row : pic.rows) {
                h = 31 * h + (row == null ? -1 : row.length);
                for (int i = 0; row != null && i < row.length; i++) {
                    h = 31 * h + row[i];
                }
            }
        }
        return h;
    }
}
