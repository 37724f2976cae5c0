/**
 * Piano movers: a big flat thing made of whole squares is slid and turned by quarters through a
 * house of squares.
 *
 * All rows are made with the object and used again, so that no call makes anything new. What
 * belongs to one call alone (shape, floor, search, pieces) is worked out anew by each call that
 * needs it, so that nothing has to be kept in step with the house and the load.
 */
public final class PianoHouse {
    public static final int BAD = -1, FULL = -2, FINDING = -3, STATE = -4, NONE = -9;

    private static final int NOTHING = 1, BEYOND = 2, UNLIKE = 3, SIZE = 4;

    private static final int PLACE_KIND = 0, FREE_KIND = 1, TURNING_KIND = 2, TIGHT_KIND = 3, SHUT_KIND = 4;

    private static final int MOST_SIDE = 20;
    private static final int MOST_SQUARES = MOST_SIDE * MOST_SIDE;
    private static final int MOST_THINGS = 12;
    private static final int MOST_DOORS = 6;
    private static final int MOST_UNDO = 20;
    private static final int MOST_ROWS = 6;
    private static final int MOST_BITS = 63;
    private static final int MOST_HOLD = 6;
    private static final int MOST_NARROW = 9;
    private static final int MOST_DRAFT = 200;

    private static final int LINES = MOST_SIDE + 1;
    private static final int PLACES = LINES * LINES;
    private static final int POSITIONS = 4;
    private static final int STATES = POSITIONS * PLACES;

    private static final int SLIDING_STEPS = 4;
    private static final int ALL_STEPS = 6;

    /** The patch behind those of the positions: what has to be open for a turn. */
    private static final int TURN_PATCH = POSITIONS;
    private static final int PATCHES = POSITIONS + 1;

    /** No corner of a load is farther from its hold than (6, 6): nine squares each way hold the turn. */
    private static final int TURN_REACH = 9;
    private static final int MOST_PATCH = 4 * TURN_REACH * TURN_REACH;

    private static final int[] ALONG = {1, -1, 0, 0};
    private static final int[] UP = {0, 0, 1, -1};

    private final Building building = new Building();
    private final Load cargo = new Load();
    private final Shape shape = new Shape();
    private final Floor floor = new Floor();
    private final Search search = new Search();
    private final Regions regions = new Regions();
    private final Route route = new Route();
    private final int[] draftSteps = new int[MOST_DRAFT];
    private int draftLength;
    private int beginning;
    private int goalState;
    private int latestFinding;
    private final int[] findingCounts = new int[SIZE + 1];

    public PianoHouse() {
    }

    // ---- 1 the house, the load

    public int house(int w, int h) {
        if (!isWithin(w, 1, MOST_SIDE) || !isWithin(h, 1, MOST_SIDE)) return BAD;
        building.raise(w, h);
        beginning = 0;
        goalState = 0;
        return w * h;
    }

    public int thing(boolean door) {
        if (building.things >= MOST_THINGS) return FULL;
        if (door && Integer.bitCount(building.doorBits) >= MOST_DOORS) return FULL;
        building.keep();
        return building.addThing(door);
    }

    public int fill(int thing, int x, int y, int w, int h) {
        if (!building.isThing(thing) || !building.isSquare(x, y)) return BAD;
        if (!isWithin(w, 1, MOST_SIDE) || !isWithin(h, 1, MOST_SIDE)) return BAD;
        building.keep();
        building.cover(thing, x, y, w, h);
        return building.squaresOf(thing);
    }

    public int clear(int thing, int x, int y) {
        if (!building.isThing(thing) || !building.isSquare(x, y)) return BAD;
        building.keep();
        return building.bare(thing, x, y) ? 1 : 0;
    }

    public int out(int door, boolean is) {
        if (!building.isThing(door)) return BAD;
        if (!building.isDoor(door)) return STATE;
        building.keep();
        return building.putOut(door, is) ? 1 : 0;
    }

    public int undo() {
        if (building.kept <= 0) return STATE;
        building.goBack();
        return building.kept;
    }

    public int open(int x, int y) {
        if (!building.isSquare(x, y)) return BAD;
        return building.thingsOn(x, y) == 0 ? 1 : 0;
    }

    public int on(int x, int y) {
        if (!building.isSquare(x, y)) return BAD;
        return leastOf(building.thingsOn(x, y));
    }

    public int rows(int n) {
        if (n > MOST_ROWS) return BAD;
        if (n < 0) return find(SIZE);
        cargo.startOver(n);
        return n;
    }

    public int row(int j, int bits) {
        if (!isWithin(bits, 0, MOST_BITS)) return BAD;
        if (!cargo.isRow(j)) return find(BEYOND);
        cargo.setBits(j, bits);
        return 1;
    }

    public int tear(int j) {
        if (!cargo.isRow(j)) return find(BEYOND);
        if (cargo.bitsOf(j) == NONE) return find(NOTHING);
        cargo.setBits(j, NONE);
        return 1;
    }

    public int copy(int i, int j, int n) {
        if (!cargo.hasRun(i, n) || !cargo.hasRun(j, n)) return find(BEYOND);
        cargo.copyRun(i, j, n);
        return 1;
    }

    public int told(int j) {
        if (!cargo.isRow(j)) return find(BEYOND);
        int bits = cargo.bitsOf(j);
        return bits == NONE ? find(NOTHING) : bits;
    }

    public int hold(int hx, int hy) {
        if (!isWithin(hx, 0, MOST_HOLD) || !isWithin(hy, 0, MOST_HOLD)) return BAD;
        cargo.hx = hx;
        cargo.hy = hy;
        return 1;
    }

    public int load(int what) {
        switch (what) {
            case 0: return cargo.squares();
            case 1: return cargo.isWhole() ? 1 : 0;
            case 2: return cargo.farthest();
            case 3: return cargo.count;
            default: return BAD;
        }
    }

    // ---- 2 places

    public int free(int x, int y, int q) {
        if (!isState(x, y, q)) return BAD;
        if (!layOut()) return STATE;
        return floor.fits(q, x, y) ? 1 : 0;
    }

    public int turning(int x, int y) {
        if (!building.isPlace(x, y)) return BAD;
        if (!layOut()) return STATE;
        return floor.fits(TURN_PATCH, x, y) ? 1 : 0;
    }

    public int kind(int x, int y, int q) {
        if (!isState(x, y, q)) return BAD;
        if (!layOut()) return STATE;
        return floor.kindOf(x, y, q);
    }

    public int steps(int x, int y, int q, int kind) {
        if (!isState(x, y, q) || !isWithin(kind, PLACE_KIND, SHUT_KIND)) return BAD;
        if (!layOut()) return STATE;
        if (!isOfKind(floor.kindOf(x, y, q), kind)) return find(UNLIKE);
        return floor.fits(q, x, y) ? floor.slidesFrom(stateOf(x, y, q)) : 0;
    }

    public int pieces(int q) {
        if (!isWithin(q, 0, POSITIONS - 1)) return BAD;
        if (!layOut()) return STATE;
        regions.split(floor, q);
        return regions.count;
    }

    public int piece(int x, int y, int q) {
        if (!isState(x, y, q)) return BAD;
        if (!layOut()) return STATE;
        regions.split(floor, q);
        return regions.regionOf(x, y);
    }

    public int area(int q, int piece, int what) {
        if (!isWithin(q, 0, POSITIONS - 1) || !isWithin(what, 0, 2) || piece < 0) return BAD;
        if (!layOut()) return STATE;
        regions.split(floor, q);
        if (piece >= regions.count) return BAD;
        return regions.measure(floor, q, piece, what);
    }

    public int slide(int x, int y, int q, int step) {
        if (!isState(x, y, q) || !isWithin(step, 0, SLIDING_STEPS - 1)) return BAD;
        if (!layOut()) return STATE;
        if (!floor.fits(q, x, y)) return NONE;
        return floor.slideLength(stateOf(x, y, q), step);
    }

    // ---- 3 ways

    public int end(boolean goal, int x, int y, int q) {
        if (!isState(x, y, q)) return BAD;
        if (goal) goalState = stateOf(x, y, q);
        else beginning = stateOf(x, y, q);
        return 1;
    }

    public int way() {
        if (!layOut()) return STATE;
        search.run(floor, beginning);
        route.trace(floor, search, goalState);
        return route.length;
    }

    public int step(int i) {
        return route.stepAt(i);
    }

    public int count(int what) {
        if (!isWithin(what, 0, 1)) return BAD;
        if (route.length == NONE) return NONE;
        return what == 0 ? route.turnCount() : route.slideCount();
    }

    public int reached() {
        if (!layOut()) return STATE;
        search.run(floor, beginning);
        return search.size;
    }

    public int reaches(int x, int y, int q) {
        if (!isState(x, y, q)) return BAD;
        if (!layOut()) return STATE;
        search.run(floor, beginning);
        return search.isReached(stateOf(x, y, q)) ? 1 : 0;
    }

    public int held() {
        if (!layOut()) return STATE;
        if (leadsToGoal()) return 0;
        int holders = 0;
        for (int i = 0; i < search.size; i++) holders |= holdersAt(at(search.order, i));
        return holders;
    }

    public int doors() {
        if (!layOut()) return STATE;
        int closed = building.doorBits & ~building.outBits;
        if (!opensWay(closed)) return NONE;
        int best = closed;
        // Rising bits: of as many doors the first that is found is the least.
        for (int bits = 0; bits < closed; bits++) {
            boolean areClosedDoors = (bits & ~closed) == 0;
            if (areClosedDoors && Integer.bitCount(bits) < Integer.bitCount(best) && opensWay(bits)) best = bits;
        }
        return best;
    }

    public int narrow(int most) {
        if (!isWithin(most, 0, MOST_NARROW)) return BAD;
        if (!layOut()) return STATE;
        int widest = NONE;
        // What is grown more has no way that is not there when it is grown less.
        for (int n = 0; n <= most && leadsToGoal(); n++) {
            widest = n;
            floor.grow();
            floor.mark(shape);
        }
        return widest;
    }

    public int draft(int step) {
        if (!isWithin(step, 0, ALL_STEPS - 1)) return BAD;
        if (draftLength >= MOST_DRAFT) return FULL;
        put(draftSteps, draftLength, step);
        draftLength++;
        return draftLength;
    }

    public int check() {
        int length = draftLength;
        draftLength = 0;
        if (!layOut()) return STATE;
        if (!floor.isFree(beginning)) return -10;
        int state = beginning;
        for (int i = 0; i < length; i++) {
            state = floor.lead(state, at(draftSteps, i));
            if (state == NONE) return -10 - i;
        }
        return state == goalState ? 1 : -10 - length;
    }

    // ---- 4 what is told

    public int many(int what) {
        switch (what) {
            case 0: return building.w;
            case 1: return building.h;
            case 2: return building.things;
            case 3: return building.kept;
            case 4: return draftLength;
            default: return BAD;
        }
    }

    public int finding() {
        return latestFinding;
    }

    public int findings(int f) {
        if (!isWithin(f, NOTHING, SIZE)) return BAD;
        return at(findingCounts, f);
    }

    public long digest() {
        long h = mix(mix(17, building.w), building.h);
        for (int y = 0; y < building.h; y++) {
            for (int x = 0; x < building.w; x++) h = mix(h, leastOf(building.thingsOn(x, y)));
        }
        for (int t = 0; t < building.things; t++) {
            h = mix(mix(h, building.doorBits >> t & 1), building.outBits >> t & 1);
        }
        for (int j = 0; j < cargo.count; j++) h = mix(h, cargo.bitsOf(j));
        h = mix(mix(h, cargo.hx), cargo.hy);
        return mixState(mixState(h, beginning), goalState);
    }

    // ---- helpers of the calls

    private int find(int which) {
        latestFinding = which;
        put(findingCounts, which, at(findingCounts, which) + 1);
        return FINDING;
    }

    /** Makes shape and floor those of now; false: the load is not whole. */
    private boolean layOut() {
        if (!cargo.isWhole()) return false;
        shape.take(cargo);
        floor.lay(building, building.outBits);
        floor.mark(shape);
        return true;
    }

    private boolean leadsToGoal() {
        search.run(floor, beginning);
        return search.isReached(goalState);
    }

    /** Whether there is a way with these doors out, too. */
    private boolean opensWay(int doorBits) {
        floor.lay(building, building.outBits | doorBits);
        floor.mark(shape);
        search.run(floor, beginning);
        return search.isReached(goalState);
    }

    /** The things, as bits, that forbid a step from a state. */
    private int holdersAt(int state) {
        int x = xOf(state), y = yOf(state), q = qOf(state);
        int holders = thingsUnder(TURN_PATCH, x, y);
        for (int step = 0; step < SLIDING_STEPS; step++) {
            holders |= thingsUnder(q, x + at(ALONG, step), y + at(UP, step));
        }
        return holders;
    }

    private int thingsUnder(int patch, int x, int y) {
        // Beyond the outer lines there is no place at which the load could lie.
        if (!building.isPlace(x, y) || floor.fits(patch, x, y)) return 0;
        int found = 0;
        for (int i = 0; i < shape.sizeOf(patch); i++) {
            found |= building.thingsOn(x + shape.alongOf(patch, i), y + shape.upOf(patch, i));
        }
        return found;
    }

    private boolean isState(int x, int y, int q) {
        return building.isPlace(x, y) && isWithin(q, 0, POSITIONS - 1);
    }

    private static boolean isOfKind(int own, int asked) {
        if (asked == PLACE_KIND || asked == own) return true;
        return asked == FREE_KIND && (own == TURNING_KIND || own == TIGHT_KIND);
    }

    private static int leastOf(int bits) {
        for (int t = 0; t < MOST_THINGS; t++) {
            if ((bits >> t & 1) == 1) return t;
        }
        return NONE;
    }

    private static long mix(long h, int v) {
        return 31 * h + v;
    }

    private static long mixState(long h, int state) {
        return mix(mix(mix(h, xOf(state)), yOf(state)), qOf(state));
    }

    // ---- helpers of all classes

    private static int stateOf(int x, int y, int q) {
        return q * PLACES + y * LINES + x;
    }

    private static int xOf(int state) {
        return state % LINES;
    }

    private static int yOf(int state) {
        return state / LINES % LINES;
    }

    private static int qOf(int state) {
        return state / PLACES;
    }

    private static boolean isWithin(int v, int least, int most) {
        return v >= least && v <= most;
    }

    /** An element, looked at first, so that no index can ever be wrong. */
    private static int at(int[] row, int i) {
        return i >= 0 && i < row.length ? row[i] : 0;
    }

    private static void put(int[] row, int i, int v) {
        if (i >= 0 && i < row.length) row[i] = v;
    }

    private static void fillWith(int[] row, int v) {
        for (int i = 0; i < row.length; i++) row[i] = v;
    }

    /** The house with its things, and how it was before the latest changes. */
    private static final class Building {
        int w = 1;
        int h = 1;
        int things;
        int doorBits;
        int outBits;
        /** Of each square the things that have it, as bits. */
        final int[] squares = new int[MOST_SQUARES];

        int kept;
        int slot;
        final int[] oldSquares = new int[MOST_UNDO * MOST_SQUARES];
        final int[] oldThings = new int[MOST_UNDO];
        final int[] oldDoorBits = new int[MOST_UNDO];
        final int[] oldOutBits = new int[MOST_UNDO];

        void raise(int newW, int newH) {
            w = newW;
            h = newH;
            things = 0;
            doorBits = 0;
            outBits = 0;
            fillWith(squares, 0);
            kept = 0;
            slot = 0;
        }

        boolean isSquare(int x, int y) {
            return isWithin(x, 0, w - 1) && isWithin(y, 0, h - 1);
        }

        boolean isPlace(int x, int y) {
            return isWithin(x, 0, w) && isWithin(y, 0, h);
        }

        boolean isThing(int thing) {
            return isWithin(thing, 0, things - 1);
        }

        boolean isDoor(int thing) {
            return (doorBits >> thing & 1) == 1;
        }

        int addThing(boolean door) {
            if (door) doorBits |= 1 << things;
            things++;
            return things - 1;
        }

        void cover(int thing, int left, int low, int along, int up) {
            int right = Math.min(left + along, w), high = Math.min(low + up, h);
            for (int y = low; y < high; y++) {
                for (int x = left; x < right; x++) {
                    int i = squareIndex(x, y);
                    put(squares, i, at(squares, i) | 1 << thing);
                }
            }
        }

        /** Takes a square from a thing; whether the thing had it. */
        boolean bare(int thing, int x, int y) {
            int i = squareIndex(x, y);
            int had = at(squares, i);
            put(squares, i, had & ~(1 << thing));
            return (had >> thing & 1) == 1;
        }

        /** Puts a door out, or in; whether it was out. */
        boolean putOut(int door, boolean is) {
            boolean was = (outBits >> door & 1) == 1;
            outBits = is ? outBits | 1 << door : outBits & ~(1 << door);
            return was;
        }

        int squaresOf(int thing) {
            int found = 0;
            for (int i = 0; i < squares.length; i++) found += squares[i] >> thing & 1;
            return found;
        }

        /** The things on a square that are not out, as bits; none where no square is. */
        int thingsOn(int x, int y) {
            return isSquare(x, y) ? at(squares, squareIndex(x, y)) & ~outBits : 0;
        }

        /** The squares of a row that are open with these doors out: bit x. */
        int openRow(int y, int outs) {
            int bits = 0;
            for (int x = 0; x < w; x++) {
                if ((at(squares, squareIndex(x, y)) & ~outs) == 0) bits |= 1 << x;
            }
            return bits;
        }

        void keep() {
            int base = slot * MOST_SQUARES;
            for (int i = 0; i < squares.length; i++) put(oldSquares, base + i, squares[i]);
            put(oldThings, slot, things);
            put(oldDoorBits, slot, doorBits);
            put(oldOutBits, slot, outBits);
            slot = (slot + 1) % MOST_UNDO;
            kept = Math.min(kept + 1, MOST_UNDO);
        }

        void goBack() {
            slot = (slot + MOST_UNDO - 1) % MOST_UNDO;
            kept--;
            int base = slot * MOST_SQUARES;
            for (int i = 0; i < squares.length; i++) squares[i] = at(oldSquares, base + i);
            things = at(oldThings, slot);
            doorBits = at(oldDoorBits, slot);
            outBits = at(oldOutBits, slot);
        }

        private static int squareIndex(int x, int y) {
            return y * MOST_SIDE + x;
        }
    }

    /** The load as it is told: its rows and its hold. */
    private static final class Load {
        int count;
        int hx;
        int hy;
        /** NONE: the row is missing. */
        final int[] bits = new int[MOST_ROWS];
        final int[] aside = new int[MOST_ROWS];

        void startOver(int n) {
            count = n;
            fillWith(bits, NONE);
        }

        boolean isRow(int j) {
            return isWithin(j, 0, count - 1);
        }

        /** Whether there are n rows from one on. */
        boolean hasRun(int from, int n) {
            return isWithin(n, 0, count) && isWithin(from, 0, count - n);
        }

        int bitsOf(int j) {
            return at(bits, j);
        }

        void setBits(int j, int rowBits) {
            put(bits, j, rowBits);
        }

        void copyRun(int from, int to, int n) {
            for (int k = 0; k < aside.length; k++) aside[k] = bitsOf(k);
            for (int k = 0; k < n; k++) put(bits, to + k, at(aside, from + k));
        }

        boolean hasSquare(int i, int j) {
            int rowBits = bitsOf(j);
            return isRow(j) && rowBits != NONE && (rowBits >> i & 1) == 1;
        }

        int squares() {
            int found = 0;
            for (int j = 0; j < count; j++) {
                if (bitsOf(j) != NONE) found += Integer.bitCount(bitsOf(j));
            }
            return found;
        }

        boolean isWhole() {
            boolean lacks = false;
            for (int j = 0; j < count; j++) {
                if (bitsOf(j) == NONE) lacks = true;
                else if (lacks) return false;
            }
            return squares() > 0;
        }

        /** The square of how far the farthest corner is from the hold. */
        int farthest() {
            int most = 0;
            for (int j = 0; j < count; j++) {
                for (int i = 0; i < MOST_ROWS; i++) {
                    if (!hasSquare(i, j)) continue;
                    int dx = Math.max(Math.abs(i - hx), Math.abs(i + 1 - hx));
                    int dy = Math.max(Math.abs(j - hy), Math.abs(j + 1 - hy));
                    most = Math.max(most, dx * dx + dy * dy);
                }
            }
            return most;
        }
    }

    /** Five patches of squares around the hold: one a position, and the one that a turn needs. */
    private static final class Shape {
        final int[] along = new int[PATCHES * MOST_PATCH];
        final int[] up = new int[PATCHES * MOST_PATCH];
        final int[] sizes = new int[PATCHES];

        int sizeOf(int patch) {
            return at(sizes, patch);
        }

        int alongOf(int patch, int i) {
            return at(along, patch * MOST_PATCH + i);
        }

        int upOf(int patch, int i) {
            return at(up, patch * MOST_PATCH + i);
        }

        void take(Load load) {
            fillWith(sizes, 0);
            for (int j = 0; j < load.count; j++) {
                for (int i = 0; i < MOST_ROWS; i++) {
                    if (load.hasSquare(i, j)) addTurned(i - load.hx, j - load.hy);
                }
            }
            addNear(load.farthest());
        }

        private void addTurned(int a, int b) {
            int x = a, y = b;
            for (int q = 0; q < POSITIONS; q++) {
                add(q, x, y);
                // The square's least corner is another one after the turn, hence one less.
                int turnedX = -y - 1;
                y = x;
                x = turnedX;
            }
        }

        private void addNear(int reach) {
            for (int b = -TURN_REACH; b < TURN_REACH; b++) {
                for (int a = -TURN_REACH; a < TURN_REACH; a++) {
                    int dx = nearest(a), dy = nearest(b);
                    if (dx * dx + dy * dy < reach) add(TURN_PATCH, a, b);
                }
            }
        }

        /** How near the stretch from a to a + 1 comes to 0. */
        private static int nearest(int a) {
            return a >= 0 ? a : -a - 1;
        }

        private void add(int patch, int a, int b) {
            int size = sizeOf(patch);
            put(along, patch * MOST_PATCH + size, a);
            put(up, patch * MOST_PATCH + size, b);
            put(sizes, patch, size + 1);
        }
    }

    /** Where each patch of a shape fits: a row of bits a line, bit x. */
    private static final class Floor {
        int w;
        int h;
        final int[] open = new int[MOST_SIDE];
        final int[] narrowed = new int[MOST_SIDE];
        final int[] fitting = new int[PATCHES * LINES];

        void lay(Building building, int outs) {
            w = building.w;
            h = building.h;
            fillWith(open, 0);
            for (int y = 0; y < h; y++) put(open, y, building.openRow(y, outs));
        }

        /** Shuts all squares beside a shut one, by a corner too; beyond the house all bits are 0. */
        void grow() {
            for (int y = 0; y < narrowed.length; y++) {
                int bits = at(open, y - 1) & at(open, y) & at(open, y + 1);
                narrowed[y] = bits & bits << 1 & bits >> 1;
            }
            for (int y = 0; y < narrowed.length; y++) put(open, y, narrowed[y]);
        }

        void mark(Shape shape) {
            for (int patch = 0; patch < PATCHES; patch++) {
                for (int y = 0; y <= h; y++) put(fitting, patch * LINES + y, fittingRow(shape, patch, y));
            }
        }

        private int fittingRow(Shape shape, int patch, int y) {
            int size = shape.sizeOf(patch);
            int bits = (1 << w + 1) - 1;
            for (int i = 0; i < size && bits != 0; i++) {
                int row = at(open, y + shape.upOf(patch, i));
                int a = shape.alongOf(patch, i);
                bits &= a >= 0 ? row >> a : row << -a;
            }
            return bits;
        }

        boolean fits(int patch, int x, int y) {
            if (x < 0 || x > w || y < 0 || y > h) return false;
            return (at(fitting, patch * LINES + y) >> x & 1) == 1;
        }

        boolean isFree(int state) {
            return fits(qOf(state), xOf(state), yOf(state));
        }

        /** Where a step leads from a state that is free; NONE: it is no step. */
        int lead(int state, int step) {
            int x = xOf(state), y = yOf(state), q = qOf(state);
            if (step >= SLIDING_STEPS) {
                int turned = step == SLIDING_STEPS ? q + 1 : q + POSITIONS - 1;
                return fits(TURN_PATCH, x, y) ? stateOf(x, y, turned % POSITIONS) : NONE;
            }
            int toX = x + at(ALONG, step), toY = y + at(UP, step);
            return fits(q, toX, toY) ? stateOf(toX, toY, q) : NONE;
        }

        /** How many steps 0 to 3 lead from a state that is free. */
        int slidesFrom(int state) {
            int found = 0;
            for (int step = 0; step < SLIDING_STEPS; step++) {
                if (lead(state, step) != NONE) found++;
            }
            return found;
        }

        int slideLength(int from, int step) {
            int state = lead(from, step);
            int length = 0;
            for (int i = 0; i < LINES && state != NONE; i++) {
                length++;
                state = lead(state, step);
            }
            return length;
        }

        int kindOf(int x, int y, int q) {
            if (fits(q, x, y)) {
                if (fits(TURN_PATCH, x, y)) return TURNING_KIND;
                return slidesFrom(stateOf(x, y, q)) == 0 ? TIGHT_KIND : FREE_KIND;
            }
            for (int other = 0; other < POSITIONS; other++) {
                if (fits(other, x, y)) return PLACE_KIND;
            }
            return SHUT_KIND;
        }
    }

    /** The pieces of one position. */
    private static final class Regions {
        int count;
        final int[] numbers = new int[PLACES];
        final int[] queue = new int[PLACES];
        int queued;

        void split(Floor floor, int q) {
            count = 0;
            fillWith(numbers, NONE);
            for (int y = 0; y <= floor.h; y++) {
                for (int x = 0; x <= floor.w; x++) {
                    if (floor.fits(q, x, y) && regionOf(x, y) == NONE) spread(floor, stateOf(x, y, q));
                }
            }
        }

        int regionOf(int x, int y) {
            return at(numbers, stateOf(x, y, 0));
        }

        private void spread(Floor floor, int first) {
            queued = 0;
            join(first);
            for (int i = 0; i < PLACES && i < queued; i++) {
                for (int step = 0; step < SLIDING_STEPS; step++) {
                    int next = floor.lead(at(queue, i), step);
                    if (next != NONE && at(numbers, next % PLACES) == NONE) join(next);
                }
            }
            count++;
        }

        private void join(int state) {
            put(numbers, state % PLACES, count);
            put(queue, queued, state);
            queued++;
        }

        /** Of a piece: 0 its places, 1 those where a turn may be, 2 those where a step is none. */
        int measure(Floor floor, int q, int piece, int what) {
            int found = 0;
            for (int y = 0; y <= floor.h; y++) {
                for (int x = 0; x <= floor.w; x++) {
                    if (regionOf(x, y) == piece && counts(floor, stateOf(x, y, q), what)) found++;
                }
            }
            return found;
        }

        private static boolean counts(Floor floor, int state, int what) {
            if (what == 1) return floor.fits(TURN_PATCH, xOf(state), yOf(state));
            return what == 0 || floor.slidesFrom(state) < SLIDING_STEPS;
        }
    }

    /** The best ways from one state to all: fewest turns, then fewest steps. */
    private static final class Search {
        /** How many states are reached; they stand in order, those with the best ways first. */
        int size;
        final int[] order = new int[STATES];
        /** Of each state the turns of its best way; NONE: not reached. */
        final int[] turns = new int[STATES];
        final int[] lengths = new int[STATES];
        /** What a level (the states with as many turns) starts from, shortest ways first. */
        int seeded;
        final int[] seeds = new int[2 * STATES];
        final int[] seedLengths = new int[2 * STATES];

        void run(Floor floor, int from) {
            size = 0;
            seeded = 0;
            fillWith(turns, NONE);
            if (!floor.isFree(from)) return;
            sow(from, 0);
            for (int level = 0; level < STATES && seeded > 0; level++) {
                int first = size;
                spread(floor, level);
                sowNext(floor, first);
            }
        }

        boolean isReached(int state) {
            return at(turns, state) != NONE;
        }

        private void sow(int state, int length) {
            put(seeds, seeded, state);
            put(seedLengths, seeded, length);
            seeded++;
        }

        private void reach(int state, int level, int length) {
            if (at(turns, state) != NONE) return;
            put(turns, state, level);
            put(lengths, state, length);
            put(order, size, state);
            size++;
        }

        /**
         * Slides on from the seeds. Seeds come in with ways of several lengths: the nearer one of
         * the next seed and the next state goes first, so that all are reached by shortest ways.
         */
        private void spread(Floor floor, int level) {
            int next = size, seed = 0;
            for (int i = 0; i < 3 * STATES; i++) {
                boolean seedLeft = seed < seeded, stateLeft = next < size;
                if (!seedLeft && !stateLeft) return;
                int state = at(order, next);
                if (seedLeft && (!stateLeft || at(seedLengths, seed) <= at(lengths, state))) {
                    reach(at(seeds, seed), level, at(seedLengths, seed));
                    seed++;
                } else {
                    slideOn(floor, state, level);
                    next++;
                }
            }
        }

        private void slideOn(Floor floor, int state, int level) {
            int length = at(lengths, state) + 1;
            for (int step = 0; step < SLIDING_STEPS; step++) {
                int to = floor.lead(state, step);
                if (to != NONE) reach(to, level, length);
            }
        }

        /** The turns from the states of a level: the seeds of the next one. */
        private void sowNext(Floor floor, int first) {
            seeded = 0;
            for (int i = first; i < size; i++) {
                int state = at(order, i);
                for (int step = SLIDING_STEPS; step < ALL_STEPS; step++) {
                    int to = floor.lead(state, step);
                    if (to != NONE && !isReached(to)) sow(to, at(lengths, state) + 1);
                }
            }
        }

        /** The least last step of a best way to a state; NONE: the way has no steps. */
        int lastStep(Floor floor, int state) {
            for (int step = 0; step < ALL_STEPS; step++) {
                // Steps stand in pairs that undo one another: the other one leads back.
                int before = floor.lead(state, step ^ 1);
                if (before == NONE || !isReached(before)) continue;
                int turn = step >= SLIDING_STEPS ? 1 : 0;
                boolean asTurns = at(turns, before) + turn == at(turns, state);
                if (asTurns && at(lengths, before) + 1 == at(lengths, state)) return step;
            }
            return NONE;
        }
    }

    /** The way of the latest call of way(). */
    private static final class Route {
        /** NONE: there is no way. */
        int length = NONE;
        final int[] found = new int[STATES];

        void trace(Floor floor, Search search, int goal) {
            length = NONE;
            if (!search.isReached(goal)) return;
            length = at(search.lengths, goal);
            int state = goal;
            for (int i = length - 1; i >= 0; i--) {
                int last = search.lastStep(floor, state);
                if (last == NONE) return;
                put(found, i, last);
                state = floor.lead(state, last ^ 1);
            }
        }

        int stepAt(int i) {
            return isWithin(i, 0, length - 1) ? at(found, i) : NONE;
        }

        int turnCount() {
            int turned = 0;
            for (int i = 0; i < length; i++) {
                if (stepAt(i) >= SLIDING_STEPS) turned++;
            }
            return turned;
        }

        int slideCount() {
            int slides = 0;
            for (int i = 0; i < length; i++) {
                // Ahead of the first step stands NONE, which is like no step.
                if (stepAt(i) < SLIDING_STEPS && stepAt(i) != stepAt(i - 1)) slides++;
            }
            return slides;
        }
    }
}
