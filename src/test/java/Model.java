import java.util.ArrayDeque;
import java.util.ArrayList;
import java.util.Arrays;
import java.util.HashMap;
import java.util.HashSet;
import java.util.List;
import java.util.Map;
import java.util.PriorityQueue;
import java.util.Set;

/**
 * The document a second time, square by square and as slow as its words: what PianoHouse answers is
 * compared with this. It shares no way of working with the class: sets for rows of bits, corners
 * turned one by one, whole ways compared as texts.
 */
final class Model {
    static final int BAD = -1, FULL = -2, FINDING = -3, STATE = -4, NONE = -9;
    private static final int[] DX = {1, -1, 0, 0}, DY = {0, 0, 1, -1};

    record Square(int x, int y) { }

    record At(int x, int y, int q) { }

    /** A way as found: its steps as a text from the last one to the first. */
    record Way(At at, int turns, String back) { }

    static final class Thing {
        final boolean door;
        boolean out;
        Set<Square> squares = new HashSet<>();

        Thing(boolean door) {
            this.door = door;
        }

        Thing again() {
            Thing t = new Thing(door);
            t.out = out;
            t.squares = new HashSet<>(squares);
            return t;
        }
    }

    private int w = 1, h = 1;
    private List<Thing> things = new ArrayList<>();
    private final ArrayDeque<List<Thing>> past = new ArrayDeque<>();
    private Integer[] rows = new Integer[0];
    private int hx, hy;
    private At begin = new At(0, 0, 0), goal = new At(0, 0, 0);
    private String lastWay;
    private final List<Integer> draft = new ArrayList<>();
    private int finding;
    private final int[] findings = new int[5];

    // ---- 1

    int house(int w, int h) {
        if (w < 1 || w > 20 || h < 1 || h > 20) return BAD;
        this.w = w;
        this.h = h;
        things = new ArrayList<>();
        past.clear();
        begin = new At(0, 0, 0);
        goal = new At(0, 0, 0);
        return w * h;
    }

    int thing(boolean door) {
        if (things.size() == 12) return FULL;
        if (door && things.stream().filter(t -> t.door).count() == 6) return FULL;
        keep();
        things.add(new Thing(door));
        return things.size() - 1;
    }

    int fill(int thing, int x, int y, int w, int h) {
        if (!isThing(thing) || !inHouse(x, y) || w < 1 || w > 20 || h < 1 || h > 20) return BAD;
        keep();
        Thing t = things.get(thing);
        for (int i = 0; i < w; i++) {
            for (int j = 0; j < h; j++) {
                if (inHouse(x + i, y + j)) t.squares.add(new Square(x + i, y + j));
            }
        }
        return t.squares.size();
    }

    int clear(int thing, int x, int y) {
        if (!isThing(thing) || !inHouse(x, y)) return BAD;
        keep();
        return things.get(thing).squares.remove(new Square(x, y)) ? 1 : 0;
    }

    int out(int door, boolean is) {
        if (!isThing(door)) return BAD;
        if (!things.get(door).door) return STATE;
        keep();
        boolean was = things.get(door).out;
        things.get(door).out = is;
        return was ? 1 : 0;
    }

    int undo() {
        if (past.isEmpty()) return STATE;
        things = past.removeLast();
        return past.size();
    }

    int open(int x, int y) {
        if (!inHouse(x, y)) return BAD;
        return isOpen(x, y, Set.of(), 0) ? 1 : 0;
    }

    int on(int x, int y) {
        if (!inHouse(x, y)) return BAD;
        for (int t = 0; t < things.size(); t++) {
            if (stands(t, x, y)) return t;
        }
        return NONE;
    }

    int rows(int n) {
        if (n > 6) return BAD;
        if (n < 0) return find(4);
        rows = new Integer[n];
        return n;
    }

    int row(int j, int bits) {
        if (bits < 0 || bits > 63) return BAD;
        if (j < 0 || j >= rows.length) return find(2);
        rows[j] = bits;
        return 1;
    }

    int tear(int j) {
        if (j < 0 || j >= rows.length) return find(2);
        if (rows[j] == null) return find(1);
        rows[j] = null;
        return 1;
    }

    int copy(int i, int j, int n) {
        long most = rows.length;
        if (i < 0 || j < 0 || n < 0 || (long) i + n > most || (long) j + n > most) return find(2);
        Integer[] taken = Arrays.copyOfRange(rows, i, i + n);
        System.arraycopy(taken, 0, rows, j, n);
        return 1;
    }

    int told(int j) {
        if (j < 0 || j >= rows.length) return find(2);
        return rows[j] == null ? find(1) : rows[j];
    }

    int hold(int hx, int hy) {
        if (hx < 0 || hx > 6 || hy < 0 || hy > 6) return BAD;
        this.hx = hx;
        this.hy = hy;
        return 1;
    }

    int load(int what) {
        switch (what) {
            case 0: return loadSquares(0).size();
            case 1: return isWhole() ? 1 : 0;
            case 2: return reach();
            case 3: return rows.length;
            default: return BAD;
        }
    }

    // ---- 2

    int free(int x, int y, int q) {
        if (!isPlace(x, y) || !isPosition(q)) return BAD;
        if (!isWhole()) return STATE;
        return isFree(new At(x, y, q), Set.of(), 0) ? 1 : 0;
    }

    int turning(int x, int y) {
        if (!isPlace(x, y)) return BAD;
        if (!isWhole()) return STATE;
        return mayTurn(x, y, Set.of(), 0) ? 1 : 0;
    }

    int kind(int x, int y, int q) {
        if (!isPlace(x, y) || !isPosition(q)) return BAD;
        if (!isWhole()) return STATE;
        for (int kind = 4; kind > 1; kind--) {
            if (isOf(new At(x, y, q), kind)) return kind;
        }
        return isOf(new At(x, y, q), 1) ? 1 : 0;
    }

    int steps(int x, int y, int q, int kind) {
        if (!isPlace(x, y) || !isPosition(q) || kind < 0 || kind > 4) return BAD;
        if (!isWhole()) return STATE;
        if (!isOf(new At(x, y, q), kind)) return find(3);
        return slideSteps(new At(x, y, q));
    }

    int pieces(int q) {
        if (!isPosition(q)) return BAD;
        if (!isWhole()) return STATE;
        return (int) labels(q).values().stream().distinct().count();
    }

    int piece(int x, int y, int q) {
        if (!isPlace(x, y) || !isPosition(q)) return BAD;
        if (!isWhole()) return STATE;
        Map<At, Integer> labels = labels(q);
        Integer own = labels.get(new At(x, y, q));
        return own == null ? NONE : (int) labels.values().stream().distinct().filter(l -> l < own).count();
    }

    int area(int q, int piece, int what) {
        if (!isPosition(q) || what < 0 || what > 2 || piece < 0) return BAD;
        if (!isWhole()) return STATE;
        Map<At, Integer> labels = labels(q);
        List<Integer> inOrder = labels.values().stream().distinct().sorted().toList();
        if (piece >= inOrder.size()) return BAD;
        int found = 0;
        for (At at : labels.keySet()) {
            if (!labels.get(at).equals(inOrder.get(piece))) continue;
            if (what == 0 || what == 1 && mayTurn(at.x, at.y, Set.of(), 0) || what == 2 && slideSteps(at) != 4) found++;
        }
        return found;
    }

    int slide(int x, int y, int q, int step) {
        if (!isPlace(x, y) || !isPosition(q) || step < 0 || step > 3) return BAD;
        if (!isWhole()) return STATE;
        if (!isFree(new At(x, y, q), Set.of(), 0)) return NONE;
        int n = 0;
        while (isFree(new At(x + (n + 1) * DX[step], y + (n + 1) * DY[step], q), Set.of(), 0)) n++;
        return n;
    }

    // ---- 3

    int end(boolean goal, int x, int y, int q) {
        if (!isPlace(x, y) || !isPosition(q)) return BAD;
        if (goal) this.goal = new At(x, y, q);
        else begin = new At(x, y, q);
        return 1;
    }

    int way() {
        if (!isWhole()) return STATE;
        Way best = ways(Set.of(), 0).get(goal);
        lastWay = best == null ? null : new StringBuilder(best.back).reverse().toString();
        return lastWay == null ? NONE : lastWay.length();
    }

    int step(int i) {
        return lastWay == null || i < 0 || i >= lastWay.length() ? NONE : lastWay.charAt(i) - '0';
    }

    int count(int what) {
        if (what < 0 || what > 1) return BAD;
        if (lastWay == null) return NONE;
        if (what == 0) return (int) lastWay.chars().filter(c -> c >= '4').count();
        String slides = lastWay.replaceAll("([0-3])\\1*", "s");
        return (int) slides.chars().filter(c -> c == 's').count();
    }

    int reached() {
        if (!isWhole()) return STATE;
        return ways(Set.of(), 0).size();
    }

    int reaches(int x, int y, int q) {
        if (!isPlace(x, y) || !isPosition(q)) return BAD;
        if (!isWhole()) return STATE;
        return ways(Set.of(), 0).containsKey(new At(x, y, q)) ? 1 : 0;
    }

    int held() {
        if (!isWhole()) return STATE;
        Map<At, Way> ways = ways(Set.of(), 0);
        if (ways.containsKey(goal)) return 0;
        int bits = 0;
        for (At at : ways.keySet()) {
            for (int step = 0; step < 6; step++) bits |= forbidding(at, step);
        }
        return bits;
    }

    int doors() {
        if (!isWhole()) return STATE;
        List<Integer> sets = new ArrayList<>();
        for (int bits = 0; bits < 1 << things.size(); bits++) {
            if (doorSet(bits) != null) sets.add(bits);
        }
        sets.sort((a, b) -> Integer.bitCount(a) != Integer.bitCount(b)
            ? Integer.compare(Integer.bitCount(a), Integer.bitCount(b)) : Integer.compare(a, b));
        for (int bits : sets) {
            if (ways(doorSet(bits), 0).containsKey(goal)) return bits;
        }
        return NONE;
    }

    int narrow(int most) {
        if (most < 0 || most > 9) return BAD;
        if (!isWhole()) return STATE;
        for (int n = most; n >= 0; n--) {
            if (ways(Set.of(), n).containsKey(goal)) return n;
        }
        return NONE;
    }

    int draft(int step) {
        if (step < 0 || step > 5) return BAD;
        if (draft.size() == 200) return FULL;
        draft.add(step);
        return draft.size();
    }

    int check() {
        List<Integer> steps = new ArrayList<>(draft);
        draft.clear();
        if (!isWhole()) return STATE;
        At at = begin;
        for (int i = 0; i < steps.size(); i++) {
            At next = led(at, steps.get(i));
            if (!isStep(at, steps.get(i), Set.of(), 0)) return -10 - i;
            at = next;
        }
        return at.equals(goal) && isFree(begin, Set.of(), 0) ? 1 : -10 - steps.size();
    }

    // ---- 4

    int many(int what) {
        int[] all = {w, h, things.size(), past.size(), draft.size()};
        return what < 0 || what > 4 ? BAD : all[what];
    }

    int finding() {
        return finding;
    }

    int findings(int f) {
        return f < 1 || f > 4 ? BAD : findings[f];
    }

    long digest() {
        List<Integer> all = new ArrayList<>(List.of(w, h));
        for (int y = 0; y < h; y++) {
            for (int x = 0; x < w; x++) all.add(on(x, y));
        }
        for (Thing t : things) {
            all.add(t.door ? 1 : 0);
            all.add(t.out ? 1 : 0);
        }
        for (Integer row : rows) all.add(row == null ? NONE : row);
        all.addAll(List.of(hx, hy, begin.x, begin.y, begin.q, goal.x, goal.y, goal.q));
        long sum = 17;
        for (int v : all) sum = 31 * sum + v;
        return sum;
    }

    // ---- the terms

    private int find(int which) {
        finding = which;
        findings[which]++;
        return FINDING;
    }

    private void keep() {
        List<Thing> again = new ArrayList<>();
        for (Thing t : things) again.add(t.again());
        past.addLast(again);
        if (past.size() > 20) past.removeFirst();
    }

    private boolean isThing(int t) {
        return t >= 0 && t < things.size();
    }

    private boolean inHouse(int x, int y) {
        return x >= 0 && x < w && y >= 0 && y < h;
    }

    private boolean isPlace(int x, int y) {
        return x >= 0 && x <= w && y >= 0 && y <= h;
    }

    private static boolean isPosition(int q) {
        return q >= 0 && q <= 3;
    }

    private boolean stands(int t, int x, int y) {
        return !things.get(t).out && things.get(t).squares.contains(new Square(x, y));
    }

    /** Whether a square is open with more doors out, in the house grown by n. */
    private boolean isOpen(int x, int y, Set<Integer> outs, int n) {
        for (int i = x - n; i <= x + n; i++) {
            for (int j = y - n; j <= y + n; j++) {
                if (!inHouse(i, j)) return false;
                for (int t = 0; t < things.size(); t++) {
                    if (stands(t, i, j) && !outs.contains(t)) return false;
                }
            }
        }
        return true;
    }

    private boolean isWhole() {
        int last = -1;
        for (int j = 0; j < rows.length; j++) {
            if (rows[j] != null) last = j;
        }
        for (int j = 0; j <= last; j++) {
            if (rows[j] == null) return false;
        }
        return !loadSquares(0).isEmpty();
    }

    /** The squares of the load about its hold: all corners are turned, the least one names the square. */
    private List<Square> loadSquares(int q) {
        List<Square> all = new ArrayList<>();
        for (int j = 0; j < rows.length; j++) {
            for (int i = 0; i < 6; i++) {
                if (rows[j] == null || (rows[j] & 1 << i) == 0) continue;
                int[] xs = {i - hx, i + 1 - hx}, ys = {j - hy, j + 1 - hy};
                for (int k = 0; k < q; k++) {
                    int[] turned = {-ys[0], -ys[1]};
                    ys = xs;
                    xs = turned;
                }
                all.add(new Square(Math.min(xs[0], xs[1]), Math.min(ys[0], ys[1])));
            }
        }
        return all;
    }

    private int reach() {
        int most = 0;
        for (Square s : loadSquares(0)) {
            for (int i = 0; i < 2; i++) {
                for (int j = 0; j < 2; j++) most = Math.max(most, (s.x + i) * (s.x + i) + (s.y + j) * (s.y + j));
            }
        }
        return most;
    }

    /** The squares about (0, 0) that a turn needs: of each the point that is nearest is looked at. */
    private List<Square> turnSquares() {
        List<Square> all = new ArrayList<>();
        for (int x = -12; x < 12; x++) {
            for (int y = -12; y < 12; y++) {
                int near = Math.min(Math.abs(x), Math.abs(x + 1)), nigh = Math.min(Math.abs(y), Math.abs(y + 1));
                if (near * near + nigh * nigh < reach()) all.add(new Square(x, y));
            }
        }
        return all;
    }

    private boolean isFree(At at, Set<Integer> outs, int n) {
        if (!isPlace(at.x, at.y)) return false;
        for (Square s : loadSquares(at.q)) {
            if (!isOpen(at.x + s.x, at.y + s.y, outs, n)) return false;
        }
        return true;
    }

    private boolean mayTurn(int x, int y, Set<Integer> outs, int n) {
        for (Square s : turnSquares()) {
            if (!isOpen(x + s.x, y + s.y, outs, n)) return false;
        }
        return true;
    }

    private boolean isOf(At at, int kind) {
        boolean free = isFree(at, Set.of(), 0);
        switch (kind) {
            case 1: return free;
            case 2: return free && mayTurn(at.x, at.y, Set.of(), 0);
            case 3: return free && !mayTurn(at.x, at.y, Set.of(), 0) && slideSteps(at) == 0;
            case 4:
                for (int q = 0; q < 4; q++) {
                    if (isFree(new At(at.x, at.y, q), Set.of(), 0)) return false;
                }
                return true;
            default: return true;
        }
    }

    private static At led(At at, int step) {
        if (step >= 4) return new At(at.x, at.y, Math.floorMod(at.q + (step == 4 ? 1 : -1), 4));
        return new At(at.x + DX[step], at.y + DY[step], at.q);
    }

    private boolean isStep(At at, int step, Set<Integer> outs, int n) {
        if (!isFree(at, outs, n) || !isFree(led(at, step), outs, n)) return false;
        return step < 4 || mayTurn(at.x, at.y, outs, n);
    }

    private int slideSteps(At at) {
        int found = 0;
        for (int step = 0; step < 4; step++) {
            if (isStep(at, step, Set.of(), 0)) found++;
        }
        return found;
    }

    /** Each free place of a position with the number of the least place of its piece. */
    private Map<At, Integer> labels(int q) {
        Map<At, Integer> labels = new HashMap<>();
        for (int x = 0; x <= w; x++) {
            for (int y = 0; y <= h; y++) {
                At at = new At(x, y, q);
                if (isFree(at, Set.of(), 0)) labels.put(at, y * 100 + x);
            }
        }
        boolean changed = true;
        while (changed) {
            changed = false;
            for (At at : labels.keySet()) {
                for (int step = 0; step < 4; step++) {
                    Integer beside = labels.get(led(at, step));
                    if (beside != null && beside < labels.get(at)) {
                        labels.put(at, beside);
                        changed = true;
                    }
                }
            }
        }
        return labels;
    }

    /** The way to each state that can be reached: the texts themselves are compared. */
    private Map<At, Way> ways(Set<Integer> outs, int n) {
        Map<At, Way> settled = new HashMap<>();
        Map<At, Boolean> free = new HashMap<>();
        Map<Square, Boolean> turns = new HashMap<>();
        PriorityQueue<Way> queue = new PriorityQueue<>((a, b) -> {
            if (a.turns != b.turns) return Integer.compare(a.turns, b.turns);
            if (a.back.length() != b.back.length()) return Integer.compare(a.back.length(), b.back.length());
            return a.back.compareTo(b.back);
        });
        if (isFree(begin, outs, n)) queue.add(new Way(begin, 0, ""));
        while (!queue.isEmpty()) {
            Way way = queue.remove();
            if (settled.putIfAbsent(way.at, way) != null) continue;
            for (int step = 0; step < 6; step++) {
                At next = led(way.at, step);
                if (settled.containsKey(next)) continue;
                if (!free.computeIfAbsent(next, a -> isFree(a, outs, n))) continue;
                Square here = new Square(way.at.x, way.at.y);
                if (step >= 4 && !turns.computeIfAbsent(here, s -> mayTurn(s.x, s.y, outs, n))) continue;
                queue.add(new Way(next, way.turns + (step >= 4 ? 1 : 0), step + way.back));
            }
        }
        return settled;
    }

    private int forbidding(At at, int step) {
        At next = led(at, step);
        if (!isPlace(next.x, next.y)) return 0;
        int bits = 0;
        for (Square s : step < 4 ? loadSquares(next.q) : turnSquares()) {
            for (int t = 0; t < things.size(); t++) {
                if (stands(t, next.x + s.x, next.y + s.y)) bits |= 1 << t;
            }
        }
        return bits;
    }

    /** The things of these bits, if all are doors that are not out; else null. */
    private Set<Integer> doorSet(int bits) {
        Set<Integer> set = new HashSet<>();
        for (int t = 0; t < things.size(); t++) {
            if ((bits & 1 << t) == 0) continue;
            if (!things.get(t).door || things.get(t).out) return null;
            set.add(t);
        }
        return set;
    }
}
