/**
 * Promises 17 to 24, the places: of each sentence of the document that names an edge the last value
 * that is taken and the first that is not, on each side; what is empty and what is full.
 */
public final class PlaceEdgesTest {
    private static final int BAD = -1, FINDING = -3, STATE = -4, NONE = -9;
    private static final int UNLIKE = 3;
    private static final int LEAST = Integer.MIN_VALUE, MOST = Integer.MAX_VALUE;
    private static final int[] NO_POSITIONS = {LEAST, -4, -1, 4, 5, MOST};
    private static final Due DUE = new Due("PlaceEdgesTest");

    public static void main(String[] args) {
        placesOfTheHouse();
        positions();
        onlyWhole();
        freeInEachPosition();
        freeHeldFarOutside();
        freeHeldAlongAndUpApart();
        freeOfTheLargestLoad();
        freeOnOpenSquaresAlone();
        freeBeyondEachSide();
        turningNeedsWhatIsNearer();
        turningNeedsWhatIsNearerFarOut();
        turningInTheSmallestHouse();
        turningIsFreeInAllPositions();
        kindTightOrFree();
        kindShutOrPlace();
        kindTurningOrFree();
        kindAlongAndUpApart();
        stepsOfEachKind();
        stepsFromNoneToFour();
        stepsAtEachSide();
        piecesFromNoneOn();
        piecesTouchingByCorners();
        piecesAsManyAsCanBe();
        pieceByTheLeastPlace();
        areaOfWhatThereIs();
        areaOfTheLargestHouse();
        slideToEachSide();
        slideOfNoStep();
        DUE.end();
    }

    private static void is(String call, long got, long want) {
        DUE.is(call, got, want);
    }

    /** A house of shut squares alone, for a load of one square. */
    private static PianoHouse shut(int w, int h) {
        PianoHouse p = Built.withLoad(w, h, 1);
        Built.wall(p, false, 0, 0, w, h);
        return p;
    }

    private static String at(int x, int y, int q) {
        return "(" + x + ", " + y + ", " + q + ") ";
    }

    // ---- the arguments of all calls

    private static void placesOfTheHouse() { // "At the PLACE (x, y) (whole numbers; 0 .. W, 0 .. H)"
        for (int[] size : new int[][] {{1, 1}, {20, 20}, {20, 1}, {1, 20}, {7, 4}}) {
            int w = size[0], h = size[1];
            PianoHouse p = Built.withLoad(w, h, 1);
            arePlaces(p, 0, 0, true);
            arePlaces(p, w, 0, true);
            arePlaces(p, 0, h, true);
            arePlaces(p, w, h, true);
            for (int wrong : new int[] {LEAST, -1, w + 1, MOST}) arePlaces(p, wrong, 0, false);
            for (int wrong : new int[] {LEAST, -1, h + 1, MOST}) arePlaces(p, 0, wrong, false);
            arePlaces(p, w + 1, h + 1, false);
            arePlaces(p, -1, h, false);
            arePlaces(p, w, -1, false);
        }
    }

    private static void arePlaces(PianoHouse p, int x, int y, boolean so) {
        isTaken(at(x, y, 0) + "free", p.free(x, y, 0), so);
        isTaken(at(x, y, 0) + "turning", p.turning(x, y), so);
        isTaken(at(x, y, 0) + "kind", p.kind(x, y, 0), so);
        isTaken(at(x, y, 0) + "steps", p.steps(x, y, 0, 0), so);
        isTaken(at(x, y, 0) + "piece", p.piece(x, y, 0), so);
        isTaken(at(x, y, 0) + "slide", p.slide(x, y, 0, 0), so);
    }

    private static void isTaken(String call, int got, boolean so) {
        if (so) DUE.holds(call + " answered " + got + " and is not BAD", got != BAD);
        else is(call, got, BAD);
    }

    private static void positions() { // "POSITIONS q = 0 .. 3"; "BAD"
        PianoHouse p = Built.withLoad(3, 3, 1);
        for (int q = 0; q < 4; q++) arePositions(p, q, true);
        for (int wrong : NO_POSITIONS) arePositions(p, wrong, false);
    }

    private static void arePositions(PianoHouse p, int q, boolean so) {
        isTaken(at(1, 1, q) + "free", p.free(1, 1, q), so);
        isTaken(at(1, 1, q) + "kind", p.kind(1, 1, q), so);
        isTaken(at(1, 1, q) + "steps", p.steps(1, 1, q, 0), so);
        isTaken("pieces(" + q + ")", p.pieces(q), so);
        isTaken(at(1, 1, q) + "piece", p.piece(1, 1, q), so);
        isTaken("area(" + q + ", 0, 0)", p.area(q, 0, 0), so);
        isTaken(at(1, 1, q) + "slide", p.slide(1, 1, q, 0), so);
    }

    private static void onlyWhole() { // "STATE: THE LOAD is not WHOLE; .. BAD ahead of it"
        PianoHouse p = new PianoHouse();
        p.house(4, 4);
        isNotWhole("no rows", p);
        p.rows(3);
        isNotWhole("all missing", p);
        p.row(2, 1);
        isNotWhole("the last alone", p);
        p.row(0, 1);
        isNotWhole("one between lacks", p);
        p.row(1, 0);
        is("whole", p.free(0, 0, 0), 1);
        p.tear(0);
        isNotWhole("the first lacks", p);
        p.row(0, 0);
        p.tear(2);
        isNotWhole("no square", p);
        p.row(0, 1);
        is("whole again, the last lacks", p.free(0, 0, 0), 1);
        is("no finding", p.findings(UNLIKE), 0);
    }

    private static void isNotWhole(String when, PianoHouse p) {
        is(when + ": free", p.free(0, 0, 0), STATE);
        is(when + ": free, BAD", p.free(5, 0, 0), BAD);
        is(when + ": turning", p.turning(4, 4), STATE);
        is(when + ": turning, BAD", p.turning(4, 5), BAD);
        is(when + ": kind", p.kind(4, 4, 3), STATE);
        is(when + ": kind, BAD", p.kind(4, 4, 4), BAD);
        is(when + ": steps", p.steps(0, 0, 0, 4), STATE);
        is(when + ": steps, BAD", p.steps(0, 0, 0, 5), BAD);
        is(when + ": steps, BAD", p.steps(0, -1, 0, 0), BAD);
        is(when + ": pieces", p.pieces(3), STATE);
        is(when + ": pieces, BAD", p.pieces(4), BAD);
        is(when + ": piece", p.piece(4, 4, 3), STATE);
        is(when + ": piece, BAD", p.piece(4, 4, -1), BAD);
        is(when + ": area", p.area(3, 0, 2), STATE);
        is(when + ": area, BAD", p.area(4, 0, 2), BAD);
        is(when + ": area, BAD", p.area(-1, 0, 2), BAD);
        is(when + ": area, BAD", p.area(3, -1, 2), BAD);
        is(when + ": area, BAD", p.area(3, 0, 3), BAD);
        is(when + ": slide", p.slide(0, 0, 0, 3), STATE);
        is(when + ": slide, BAD", p.slide(0, 0, 0, 4), BAD);
        is(when + ": slide, BAD", p.slide(0, 0, 4, 0), BAD);
    }

    // ---- 17

    /** Free at the places of a rectangle, and at no other place of the house. */
    private static void freeExactly(String when, PianoHouse p, int q, int leastX, int leastY, int mostX, int mostY) {
        int w = p.many(0), h = p.many(1);
        for (int y = 0; y <= h; y++) {
            for (int x = 0; x <= w; x++) {
                boolean due = x >= leastX && x <= mostX && y >= leastY && y <= mostY;
                is(when + at(x, y, q) + "free", p.free(x, y, q), due ? 1 : 0);
            }
        }
    }

    private static void freeInEachPosition() { // "what is at (a, b) from the HOLD comes to (-b, a)"
        PianoHouse p = Built.withLoad(5, 4, 7);
        freeExactly("three along: ", p, 0, 0, 0, 2, 3);
        freeExactly("three up, to the left: ", p, 1, 1, 0, 5, 1);
        freeExactly("three back, below: ", p, 2, 3, 1, 5, 4);
        freeExactly("three down: ", p, 3, 0, 3, 4, 4);
    }

    private static void freeHeldFarOutside() { // "a HOLD, a point (hx, hy) of whole numbers 0 .. 6"
        PianoHouse p = heldAt(6, 6);
        // The square lies from (-6, -6), (5, -6), (5, 5), (-6, 5) on.
        freeExactly("held at (6, 6): ", p, 0, 6, 6, 8, 9);
        freeExactly("held at (6, 6): ", p, 1, 0, 6, 2, 9);
        freeExactly("held at (6, 6): ", p, 2, 0, 0, 2, 3);
        freeExactly("held at (6, 6): ", p, 3, 6, 0, 8, 3);
        PianoHouse far = new PianoHouse();
        far.house(8, 9);
        Built.tellLoad(far, 0, 0, 0, 0, 0, 0, 0, 32);
        // The square lies from (5, 5), (-6, 5), (-6, -6), (5, -6) on.
        freeExactly("the last square: ", far, 0, 0, 0, 2, 3);
        freeExactly("the last square: ", far, 1, 6, 0, 8, 3);
        freeExactly("the last square: ", far, 2, 6, 6, 8, 9);
        freeExactly("the last square: ", far, 3, 0, 6, 2, 9);
    }

    private static void freeHeldAlongAndUpApart() { // "a HOLD, a point (hx, hy) of whole numbers 0 .. 6"
        PianoHouse p = heldAt(6, 0);
        // The square lies from (-6, 0), (-1, -6), (5, -1), (0, 5) on.
        freeExactly("held at (6, 0): ", p, 0, 6, 0, 8, 8);
        freeExactly("held at (6, 0): ", p, 1, 1, 6, 8, 9);
        freeExactly("held at (6, 0): ", p, 2, 0, 1, 2, 9);
        freeExactly("held at (6, 0): ", p, 3, 0, 0, 7, 3);
        p = heldAt(0, 6);
        // From (0, -6), (5, 0), (-1, 5), (-6, -1) on.
        freeExactly("held at (0, 6): ", p, 0, 0, 6, 7, 9);
        freeExactly("held at (0, 6): ", p, 1, 0, 0, 2, 8);
        freeExactly("held at (0, 6): ", p, 2, 1, 0, 8, 3);
        freeExactly("held at (0, 6): ", p, 3, 6, 1, 8, 9);
        p = heldAt(2, 1);
        // From (-2, -1), (0, -2), (1, 0), (-1, 1) on.
        freeExactly("held at (2, 1): ", p, 0, 2, 1, 8, 9);
        freeExactly("held at (2, 1): ", p, 1, 0, 2, 7, 9);
        freeExactly("held at (2, 1): ", p, 2, 0, 0, 6, 8);
        freeExactly("held at (2, 1): ", p, 3, 1, 0, 8, 7);
    }

    private static PianoHouse heldAt(int hx, int hy) {
        PianoHouse p = Built.withLoad(8, 9, 1);
        p.hold(hx, hy);
        return p;
    }

    private static void freeOfTheLargestLoad() { // "up to 6 ROWS of up to 6 SQUARES"
        PianoHouse p = new PianoHouse();
        p.house(6, 6);
        Built.tellLoad(p, 0, 0, 63, 63, 63, 63, 63, 63);
        freeExactly("36 squares in 36: ", p, 0, 0, 0, 0, 0);
        freeExactly("36 squares in 36: ", p, 1, 6, 0, 6, 0);
        freeExactly("36 squares in 36: ", p, 2, 6, 6, 6, 6);
        freeExactly("36 squares in 36: ", p, 3, 0, 6, 0, 6);
        Built.wall(p, false, 5, 5, 1, 1);
        is("the last square shut", p.free(0, 0, 0), 0);
        p.undo();
        p.fill(0, 0, 0, 1, 1);
        is("the first square shut", p.free(0, 0, 0), 0);
        p.undo();
        p.hold(3, 3);
        for (int q = 0; q < 4; q++) is("held in the middle", p.free(3, 3, q), 1);
        p.house(5, 6);
        for (int q = 0; q < 4; q++) freeExactly("36 squares in 30: ", p, q, 1, 1, 0, 0);
    }

    private static void freeOnOpenSquaresAlone() { // "if all SQUARES on which it lies are OPEN"
        PianoHouse p = new PianoHouse();
        p.house(4, 4);
        Built.tellLoad(p, 1, 1, 3, 1);
        // An L: at (2, 2) it lies on (1, 1), (2, 1), (1, 2) and not on (2, 2).
        int t = p.thing(true);
        for (int y = 0; y < 4; y++) {
            for (int x = 0; x < 4; x++) {
                boolean under = x == 1 && y == 1 || x == 2 && y == 1 || x == 1 && y == 2;
                p.fill(t, x, y, 1, 1);
                is("a door at " + x + ", " + y, p.free(2, 2, 0), under ? 0 : 1);
                p.out(t, true);
                is("the same out", p.free(2, 2, 0), 1);
                p.undo();
                p.undo();
            }
        }
    }

    private static void freeBeyondEachSide() { // "A SQUARE is SHUT if .. it is not of THE HOUSE"
        PianoHouse p = Built.withLoad(20, 20, 1);
        p.hold(1, 1);
        // In position 0 it lies left of and below its place.
        is("at the first place", p.free(1, 1, 0), 1);
        is("beyond the left", p.free(0, 1, 0), 0);
        is("beyond below", p.free(1, 0, 0), 0);
        is("at the last place", p.free(20, 20, 0), 1);
        p.hold(0, 0);
        is("beyond the right", p.free(20, 0, 0), 0);
        is("beyond above", p.free(0, 20, 0), 0);
        is("at the last but one", p.free(19, 19, 0), 1);
        p.house(19, 19);
        is("a smaller house: beyond the right", p.free(19, 0, 0), 0);
        is("a smaller house: beyond above", p.free(0, 19, 0), 0);
    }

    // ---- 18

    private static int nearest(int a) {
        return Math.min(Math.abs(a), Math.abs(a + 1));
    }

    /** Each square of the house is shut in turn: a turn at (x, y) needs those nearer than the root of reach. */
    private static void turnNeeds(int side, int bits, int rows, int x, int y, int reach) {
        for (int b = 0; b < side; b++) {
            PianoHouse p = new PianoHouse();
            p.house(side, side);
            p.rows(rows);
            for (int j = 0; j < rows; j++) p.row(j, j == rows - 1 ? bits : 0);
            is("farthest", p.load(2), reach);
            is("turning in an open house", p.turning(x, y), 1);
            p.thing(false);
            for (int a = 0; a < side; a++) {
                int dx = nearest(a - x), dy = nearest(b - y);
                p.fill(0, a, b, 1, 1);
                is("reach " + reach + ", shut at " + a + ", " + b, p.turning(x, y), dx * dx + dy * dy < reach ? 0 : 1);
                p.undo();
            }
        }
    }

    private static void turningNeedsWhatIsNearer() { // "of which a point is nearer .. than the farthest corner"
        turnNeeds(4, 1, 1, 2, 2, 2);
        turnNeeds(6, 3, 1, 3, 3, 5);
        turnNeeds(8, 7, 1, 4, 4, 10);
        turnNeeds(10, 4, 3, 5, 5, 18);
        turnNeeds(10, 8, 3, 5, 5, 25);
    }

    private static void turningNeedsWhatIsNearerFarOut() {
        turnNeeds(18, 32, 6, 9, 9, 72);
        turnNeeds(20, 32, 6, 11, 10, 72);
    }

    private static void turningInTheSmallestHouse() { // "all SQUARES are OPEN" (none of what is not of THE HOUSE)
        for (int side = 1; side <= 6; side++) {
            PianoHouse p = Built.withLoad(side, side, 1);
            for (int y = 0; y <= side; y++) {
                for (int x = 0; x <= side; x++) {
                    boolean inside = x >= 2 && y >= 2 && x <= side - 2 && y <= side - 2;
                    is("in " + side + " at " + x + ", " + y, p.turning(x, y), inside ? 1 : 0);
                }
            }
        }
        PianoHouse flat = Built.withLoad(20, 3, 1);
        for (int x = 0; x <= 20; x++) is("too flat at " + x, flat.turning(x, 2), 0);
        flat.house(20, 4);
        for (int x = 0; x <= 20; x++) is("high enough at " + x, flat.turning(x, 2), x >= 2 && x <= 18 ? 1 : 0);
    }

    private static void turningIsFreeInAllPositions() { // "(and it is FREE in all POSITIONS, which follows)"
        PianoHouse p = Built.withLoad(4, 4, 1);
        for (int q = 0; q < 4; q++) {
            is("free", p.free(2, 2, q), 1);
            is("TURNING", p.kind(2, 2, q), 2);
        }
        Built.wall(p, false, 0, 1, 1, 1);
        for (int q = 0; q < 4; q++) {
            is("free in all, but", p.free(2, 2, q), 1);
            is("not TURNING", p.kind(2, 2, q), 1);
        }
        is("turning", p.turning(2, 2), 0);
    }

    // ---- 19

    private static void kindTightOrFree() { // "in none of the four PLACES one step from it, along or up, either way"
        PianoHouse p = shut(5, 5);
        p.clear(0, 2, 2);
        is("TIGHT", p.kind(2, 2, 0), 3);
        int[][] beside = {{3, 2}, {1, 2}, {2, 3}, {2, 1}};
        for (int[] b : beside) {
            p.clear(0, b[0], b[1]);
            is("FREE: one beside it is, " + b[0] + ", " + b[1], p.kind(2, 2, 0), 1);
            is("FREE: that one, too", p.kind(b[0], b[1], 0), 1);
            p.undo();
        }
        int[][] apart = {{1, 1}, {3, 1}, {1, 3}, {3, 3}, {4, 2}, {0, 2}, {2, 4}, {2, 0}};
        for (int[] a : apart) {
            p.clear(0, a[0], a[1]);
            is("TIGHT: one apart is free, " + a[0] + ", " + a[1], p.kind(2, 2, 0), 3);
            is("TIGHT: that one, too", p.kind(a[0], a[1], 0), 3);
            p.undo();
        }
        is("TIGHT again", p.kind(2, 2, 0), 3);
        is("free beside it in another position does not count", p.kind(3, 2, 1), 3);
    }

    private static void kindShutOrPlace() { // "4 SHUT (a PLACE, too: it is FREE there in no POSITION)"
        PianoHouse p = Built.withLoad(1, 1, 1);
        int[][] freeAt = {{0, 0}, {1, 0}, {1, 1}, {0, 1}};
        for (int own = 0; own < 4; own++) {
            int x = freeAt[own][0], y = freeAt[own][1];
            for (int q = 0; q < 4; q++) is(at(x, y, q) + "kind", p.kind(x, y, q), q == own ? 3 : 0);
        }
        Built.wall(p, true, 0, 0, 1, 1);
        for (int own = 0; own < 4; own++) {
            int x = freeAt[own][0], y = freeAt[own][1];
            for (int q = 0; q < 4; q++) is(at(x, y, q) + "kind, shut", p.kind(x, y, q), 4);
        }
        p.out(0, true);
        is("PLACE again", p.kind(1, 1, 0), 0);
    }

    private static void kindTurningOrFree() { // "1 FREE, 2 TURNING"
        PianoHouse p = Built.withLoad(5, 5, 1);
        for (int q = 0; q < 4; q++) {
            for (int y = 0; y <= 5; y++) {
                for (int x = 0; x <= 5; x++) {
                    boolean turns = x >= 2 && x <= 3 && y >= 2 && y <= 3;
                    int low = q == 1 || q == 2 ? 1 : 0, base = q >= 2 ? 1 : 0;
                    boolean free = x >= low && x <= low + 4 && y >= base && y <= base + 4;
                    is(at(x, y, q) + "kind", p.kind(x, y, q), turns ? 2 : free ? 1 : 0);
                }
            }
        }
    }

    private static void kindAlongAndUpApart() {
        PianoHouse p = Built.withLoad(8, 5, 1);
        is("TURNING far along", p.kind(6, 2, 0), 2);
        is("FREE far up", p.kind(2, 4, 0), 1);
        is("FREE too far along", p.kind(7, 2, 0), 1);
        Built.wall(p, false, 0, 0, 8, 5);
        p.clear(0, 6, 1);
        is("PLACE far along", p.kind(7, 2, 0), 0);
        is("SHUT far up", p.kind(2, 5, 0), 4);
        p.house(5, 8);
        is("TURNING far up", p.kind(2, 6, 0), 2);
        is("FREE far along", p.kind(4, 2, 0), 1);
        Built.wall(p, false, 0, 0, 5, 8);
        p.clear(0, 1, 6);
        is("PLACE far up", p.kind(2, 7, 0), 0);
        is("SHUT far along", p.kind(5, 2, 0), 4);
    }

    // ---- 20

    /** The kinds that a place is of, as bits; steps() of the others is UNLIKE. */
    private static void isOfKinds(String what, PianoHouse p, int x, int y, int q, int kinds, int steps) {
        for (int kind = 0; kind < 5; kind++) {
            String call = what + ": steps of kind " + kind;
            int before = p.findings(UNLIKE);
            boolean so = (kinds >> kind & 1) == 1;
            is(call, p.steps(x, y, q, kind), so ? steps : FINDING);
            is(call + ", findings", p.findings(UNLIKE), so ? before : before + 1);
        }
        for (int wrong : new int[] {LEAST, -1, 5, MOST}) is(what + ": kind " + wrong, p.steps(x, y, q, wrong), BAD);
    }

    private static void stepsOfEachKind() { // "UNLIKE: it is not of that KIND (SHUT, PLACE: 0 STEPS where it is)"
        PianoHouse p = Built.withLoad(6, 6, 1);
        isOfKinds("TURNING", p, 2, 2, 0, 1 + 2 + 4, 4);
        isOfKinds("FREE", p, 1, 1, 0, 1 + 2, 4);
        isOfKinds("PLACE", p, 0, 0, 2, 1, 0);
        Built.wall(p, false, 0, 0, 6, 6);
        isOfKinds("SHUT", p, 2, 2, 0, 1 + 16, 0);
        p.clear(0, 2, 2);
        isOfKinds("TIGHT", p, 2, 2, 0, 1 + 2 + 8, 0);
        isOfKinds("PLACE beside", p, 2, 2, 1, 1, 0);
        is("the latest finding", p.finding(), UNLIKE);
    }

    private static void stepsFromNoneToFour() { // "How many STEPS 0 to 3 lead from a PLACE in a POSITION"
        PianoHouse p = shut(3, 3);
        p.clear(0, 1, 1);
        is("none", p.steps(1, 1, 0, 1), 0);
        int[][] beside = {{2, 1}, {0, 1}, {1, 2}, {1, 0}};
        for (int i = 0; i < 4; i++) {
            p.clear(0, beside[i][0], beside[i][1]);
            is("from it", p.steps(1, 1, 0, 1), i + 1);
            is("back", p.steps(beside[i][0], beside[i][1], 0, 1), 1);
        }
        is("not to what is a corner away", p.steps(1, 1, 0, 1), 4);
        PianoHouse all = Built.withLoad(20, 20, 1);
        is("the first corner", all.steps(0, 0, 0, 0), 2);
        is("the last corner", all.steps(19, 19, 0, 0), 2);
        is("a side", all.steps(19, 10, 0, 0), 3);
        is("the last corner of position 2", all.steps(20, 20, 2, 0), 2);
        is("the first corner of position 2", all.steps(1, 1, 2, 0), 2);
        is("turns do not count", all.steps(10, 10, 0, 2), 4);
    }

    private static void stepsAtEachSide() {
        PianoHouse p = Built.withLoad(20, 20, 1);
        for (int hold = 0; hold < 4; hold++) {
            p.hold(hold % 2, hold / 2);
            for (int q = 0; q < 4; q++) {
                int x = p.free(0, 10, q) == 1 ? 0 : 1, y = p.free(10, 0, q) == 1 ? 0 : 1;
                String when = "hold " + hold + ", position " + q + ": ";
                is(when + "to the left", p.slide(x, y + 7, q, 1), 0);
                is(when + "to the right", p.slide(x, y + 7, q, 0), 19);
                is(when + "to the right at the right", p.slide(x + 19, y + 7, q, 0), 0);
                is(when + "down", p.slide(x + 7, y, q, 3), 0);
                is(when + "up", p.slide(x + 7, y, q, 2), 19);
                is(when + "up at the top", p.slide(x + 7, y + 19, q, 2), 0);
                is(when + "on the left", p.steps(x, y + 7, q, 0), 3);
                is(when + "on the right", p.steps(x + 19, y + 7, q, 0), 3);
                is(when + "below", p.steps(x + 7, y, q, 0), 3);
                is(when + "above", p.steps(x + 7, y + 19, q, 0), 3);
                is(when + "in a corner", p.steps(x + 19, y, q, 0), 2);
                is(when + "all about", p.area(q, 0, 2), 76);
            }
        }
        PianoHouse apart = shut(6, 3);
        apart.clear(0, 5, 1);
        apart.clear(0, 4, 1);
        is("far along", apart.steps(5, 1, 0, 1), 1);
        is("the other way round it is SHUT", apart.steps(1, 2, 0, 4), 0);
    }

    // ---- 21, 22

    private static void piecesFromNoneOn() { // "How many PIECES a POSITION has"; "NONE: it is not FREE"
        PianoHouse p = shut(3, 3);
        for (int q = 0; q < 4; q++) {
            is("none in " + q, p.pieces(q), 0);
            is("not free in " + q, p.piece(1, 1, q), NONE);
            is("no piece of none in " + q, p.area(q, 0, 0), BAD);
        }
        p.clear(0, 2, 2);
        is("one", p.pieces(0), 1);
        is("it is the first", p.piece(2, 2, 0), 0);
        is("beside it", p.piece(1, 2, 0), NONE);
        is("one in position 2", p.pieces(2), 1);
        is("at the last place", p.piece(3, 3, 2), 0);
        p.row(0, 3);
        is("it fits no more", p.pieces(0), 0);
        PianoHouse open = Built.withLoad(20, 20, 63);
        for (int q = 0; q < 4; q++) is("an open house is one piece in " + q, open.pieces(q), 1);
        open.house(5, 5);
        for (int q = 0; q < 4; q++) is("a load that is too long, in " + q, open.pieces(q), 0);
        open.house(6, 1);
        is("just along", open.pieces(0), 1);
        is("not upright", open.pieces(1), 0);
    }

    private static void piecesTouchingByCorners() { // "to which STEPS 0 to 3 lead from one another"
        PianoHouse p = shut(4, 4);
        p.clear(0, 1, 1);
        p.clear(0, 2, 2);
        is("by a corner: two", p.pieces(0), 2);
        p.clear(0, 2, 1);
        is("joined: one", p.pieces(0), 1);
        is("the same piece", p.piece(2, 2, 0), 0);
        PianoHouse turned = Built.withLoad(4, 9, 1);
        Built.wall(turned, false, 0, 4, 4, 1);
        is("turns join nothing", turned.pieces(0), 2);
        is("turns join nothing", turned.pieces(3), 2);
    }

    private static void piecesAsManyAsCanBe() {
        PianoHouse p = shut(20, 20);
        for (int y = 0; y < 20; y++) {
            for (int x = y % 2; x < 20; x += 2) p.clear(0, x, y);
        }
        for (int q = 0; q < 4; q++) is("each second square", p.pieces(q), 200);
        for (int y = 0; y < 20; y++) is("by y, then x", p.piece(10 + y % 2, y, 0), 10 * y + 5);
        is("the first", p.piece(0, 0, 0), 0);
        is("the last", p.piece(19, 19, 0), 199);
        is("the last of position 2", p.piece(20, 20, 2), 199);
        is("the last of position 1", p.piece(20, 19, 1), 199);
        is("the last of position 3", p.piece(19, 20, 3), 199);
        for (int what = 0; what < 3; what++) {
            is("of the last", p.area(0, 199, what), what == 1 ? 0 : 1);
            is("of one behind the last", p.area(0, 200, what), BAD);
        }
    }

    private static void pieceByTheLeastPlace() { // "by their least PLACES (by y, then x), 0, 1, ..."
        PianoHouse p = shut(5, 4);
        int[][] low = {{4, 0}, {4, 1}, {4, 2}, {3, 2}};
        for (int[] c : low) p.clear(0, c[0], c[1]);
        int[][] left = {{0, 1}, {0, 2}, {0, 3}, {1, 3}};
        for (int[] c : left) p.clear(0, c[0], c[1]);
        p.clear(0, 2, 1);
        is("three", p.pieces(0), 3);
        for (int[] c : low) is("the lowest is the first, though far along", p.piece(c[0], c[1], 0), 0);
        for (int[] c : left) is("then the leftmost", p.piece(c[0], c[1], 0), 1);
        is("then what is right of it in the same row", p.piece(2, 1, 0), 2);
    }

    // ---- 23

    private static void areaOfWhatThereIs() { // "BAD: none such"
        PianoHouse p = Built.withLoad(7, 4, 1);
        Built.wall(p, false, 3, 0, 1, 4);
        for (int piece = 0; piece < 2; piece++) {
            is("places of " + piece, p.area(0, piece, 0), 12);
            is("turning in " + piece, p.area(0, piece, 1), 0);
            is("the hem of " + piece, p.area(0, piece, 2), 10);
        }
        for (int wrong : new int[] {LEAST, -1, 2, 440, 441, MOST}) {
            for (int what = 0; what < 3; what++) is("piece " + wrong, p.area(0, wrong, what), BAD);
        }
        for (int wrong : new int[] {LEAST, -1, 3, MOST}) is("what " + wrong, p.area(0, 0, wrong), BAD);
        for (int wrong : NO_POSITIONS) is("position " + wrong, p.area(wrong, 0, 0), BAD);
        p.clear(0, 3, 0);
        is("joined", p.area(0, 0, 0), 25);
        is("the hem of the joined: those beside the gap as before", p.area(0, 0, 2), 21);
        is("no second then", p.area(0, 1, 0), BAD);
    }

    private static void areaOfTheLargestHouse() { // "0 how many PLACES, 1 how many .. TURNED at, 2 its HEM"
        PianoHouse p = Built.withLoad(20, 20, 1);
        for (int q = 0; q < 4; q++) {
            is("all places in " + q, p.area(q, 0, 0), 400);
            is("all but two lines on each side in " + q, p.area(q, 0, 1), 289);
            is("the squares at the walls in " + q, p.area(q, 0, 2), 76);
        }
        p.house(4, 4);
        is("the middle alone may be turned at", p.area(0, 0, 1), 1);
        is("its hem", p.area(0, 0, 2), 12);
        p.house(1, 1);
        is("one place", p.area(0, 0, 0), 1);
        is("none turning", p.area(0, 0, 1), 0);
        is("it is its hem", p.area(0, 0, 2), 1);
    }

    // ---- 24

    private static void slideToEachSide() { // "one behind the other, till one does not"
        PianoHouse p = Built.withLoad(20, 20, 1);
        int[][] corners = {{0, 0, 0}, {20, 0, 1}, {20, 20, 2}, {0, 20, 3}};
        for (int[] c : corners) {
            for (int step = 0; step < 4; step++) {
                boolean away = c[step / 2] == (step % 2 == 0 ? 0 : 20);
                is(at(c[0], c[1], c[2]) + "slide " + step, p.slide(c[0], c[1], c[2], step), away ? 19 : 0);
            }
        }
        Built.wall(p, false, 10, 10, 1, 1);
        is("up to it along", p.slide(0, 10, 0, 0), 9);
        is("up to it back", p.slide(19, 10, 0, 1), 8);
        is("up to it up", p.slide(10, 0, 0, 2), 9);
        is("up to it down", p.slide(10, 19, 0, 3), 8);
        is("at it along", p.slide(9, 10, 0, 0), 0);
        is("at it back", p.slide(11, 10, 0, 1), 0);
        is("at it up", p.slide(10, 9, 0, 2), 0);
        is("at it down", p.slide(10, 11, 0, 3), 0);
        is("past it", p.slide(0, 9, 0, 0), 19);
    }

    private static void slideOfNoStep() { // "of a kind (0 to 3) .. BAD; STATE; NONE: it is not FREE there"
        PianoHouse p = Built.withLoad(3, 3, 1);
        for (int wrong : new int[] {LEAST, -1, 4, 5, 6, MOST}) is("step " + wrong, p.slide(1, 1, 0, wrong), BAD);
        for (int step = 0; step < 4; step++) {
            is("free: one", p.slide(1, 1, 0, step), 1);
            is("not free", p.slide(3, 3, 0, step), NONE);
            is("not free in another position", p.slide(0, 0, 2, step), NONE);
        }
        is("BAD ahead of NONE", p.slide(3, 3, 0, 4), BAD);
    }
}
