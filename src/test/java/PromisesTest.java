/**
 * Promise by promise: ordinary calls, the edges that the document names, and wrong ones. What is due
 * stands here as the document says it, worked out by hand.
 */
public final class PromisesTest {
    private static final int BAD = -1, FULL = -2, FINDING = -3, STATE = -4, NONE = -9;
    private static final int LEAST = Integer.MIN_VALUE, MOST = Integer.MAX_VALUE;
    private static final Due DUE = new Due("PromisesTest");

    public static void main(String[] args) {
        constants();
        newObject();
        house();
        thing();
        fill();
        clear();
        out();
        undo();
        undoKeepsTwenty();
        openAndOn();
        rows();
        rowTearTold();
        copy();
        holdAndLoad();
        free();
        freeAboutTheHold();
        turning();
        kind();
        steps();
        pieces();
        piecesOnTheLastLines();
        area();
        slide();
        end();
        wayOfFewestTurns();
        wayOfLeastLastSteps();
        latestWay();
        reached();
        held();
        heldAtTheLastLine();
        doors();
        narrow();
        draft();
        check();
        many();
        findings();
        digest();
        DUE.end();
    }

    private static void is(String call, long got, long want) {
        DUE.is(call, got, want);
    }

    private static void isText(String call, String got, String want) {
        DUE.same(call, got, want);
    }

    private static void constants() {
        is("BAD", PianoHouse.BAD, BAD);
        is("FULL", PianoHouse.FULL, FULL);
        is("FINDING", PianoHouse.FINDING, FINDING);
        is("STATE", PianoHouse.STATE, STATE);
        is("NONE", PianoHouse.NONE, NONE);
    }

    private static void newObject() { // 1
        PianoHouse p = new PianoHouse();
        is("new: many(0)", p.many(0), 1);
        is("new: many(1)", p.many(1), 1);
        is("new: many(2)", p.many(2), 0);
        is("new: many(3)", p.many(3), 0);
        is("new: many(4)", p.many(4), 0);
        is("new: load(3)", p.load(3), 0);
        is("new: open(0, 0)", p.open(0, 0), 1);
        is("new: open(1, 0)", p.open(1, 0), BAD);
        is("new: digest", p.digest(), Built.digestOf(1, 1, NONE, 0, 0, 0, 0, 0, 0, 0, 0));
        is("new: finding", p.finding(), 0);
        is("new: step(0)", p.step(0), NONE);
        is("new: count(0)", p.count(0), NONE);
    }

    private static void house() { // 2
        PianoHouse p = new PianoHouse();
        is("house(20, 20)", p.house(20, 20), 400);
        is("house(1, 20)", p.house(1, 20), 20);
        is("house(3, 2)", p.house(3, 2), 6);
        Built.wall(p, true, 0, 0, 2, 2);
        p.out(0, true);
        p.end(false, 1, 1, 1);
        p.end(true, 2, 2, 2);
        long before = p.digest();
        for (int wrong : new int[] {0, 21, -1, LEAST, MOST}) {
            is("house(" + wrong + ", 1)", p.house(wrong, 1), BAD);
            is("house(1, " + wrong + ")", p.house(1, wrong), BAD);
        }
        is("digest behind BAD", p.digest(), before);
        is("many(3) behind BAD", p.many(3), 3);
        is("house(2, 1)", p.house(2, 1), 2);
        is("many(2) behind house", p.many(2), 0);
        is("many(3) behind house", p.many(3), 0);
        is("undo behind house", p.undo(), STATE);
        is("digest behind house", p.digest(), Built.digestOf(2, 1, NONE, NONE, 0, 0, 0, 0, 0, 0, 0, 0));
        is("thing behind house", p.thing(true), 0);
        is("out behind house", p.out(0, false), 0);
        is("fill behind house", p.fill(0, 0, 0, 1, 1), 1);
        p.house(2, 1);
        is("a thing behind house is no door of before", p.thing(false), 0);
        is("out behind house", p.out(0, true), STATE);
        p.rows(2);
        p.row(1, 5);
        p.hold(3, 4);
        p.draft(1);
        is("house keeps the load", p.house(4, 4), 16);
        is("told(1)", p.told(1), 5);
        is("load(3)", p.load(3), 2);
        is("load(2)", p.load(2), 18);
        is("many(4) behind house", p.many(4), 1);
    }

    private static void thing() { // 3
        PianoHouse p = new PianoHouse();
        p.house(3, 3);
        for (int t = 0; t < 6; t++) is("thing(true) " + t, p.thing(true), t);
        is("a seventh door", p.thing(true), FULL);
        is("many(3) behind FULL", p.many(3), 6);
        for (int t = 6; t < 12; t++) is("thing(false) " + t, p.thing(false), t);
        is("a thirteenth thing", p.thing(false), FULL);
        is("a thirteenth thing, a door", p.thing(true), FULL);
        is("many(2)", p.many(2), 12);
        is("many(3)", p.many(3), 12);
        is("no squares", p.on(0, 0), NONE);
        is("a door is not out", p.out(5, true), 0);
        is("thing 11 is no door", p.out(11, true), STATE);
    }

    private static void fill() { // 4
        PianoHouse p = new PianoHouse();
        p.house(5, 4);
        p.thing(false);
        is("fill", p.fill(0, 1, 1, 2, 3), 6);
        is("fill again", p.fill(0, 2, 1, 2, 1), 7);
        is("fill over the edge", p.fill(0, 4, 3, 20, 20), 8);
        is("fill all", p.fill(0, 0, 0, 20, 20), 20);
        p.thing(false);
        is("two things on a square", p.fill(1, 0, 0, 1, 1), 1);
        is("the first is full still", p.fill(0, 0, 0, 1, 1), 20);
        is("many(3)", p.many(3), 8);
        for (int wrong : new int[] {-1, 2, 12, 32, LEAST, MOST}) is("fill thing " + wrong, p.fill(wrong, 0, 0, 1, 1), BAD);
        for (int wrong : new int[] {-1, 5, LEAST, MOST}) is("fill x " + wrong, p.fill(0, wrong, 0, 1, 1), BAD);
        for (int wrong : new int[] {-1, 4, LEAST, MOST}) is("fill y " + wrong, p.fill(0, 0, wrong, 1, 1), BAD);
        for (int wrong : new int[] {-1, 0, 21, LEAST, MOST}) {
            is("fill w " + wrong, p.fill(0, 0, 0, wrong, 1), BAD);
            is("fill h " + wrong, p.fill(0, 0, 0, 1, wrong), BAD);
        }
        is("many(3) behind BAD", p.many(3), 8);
    }

    private static void clear() { // 5
        PianoHouse p = new PianoHouse();
        p.house(3, 2);
        Built.wall(p, false, 0, 0, 2, 2);
        Built.wall(p, false, 0, 0, 3, 1);
        is("clear", p.clear(0, 1, 1), 1);
        is("clear again", p.clear(0, 1, 1), 0);
        is("clear where it is not", p.clear(0, 2, 0), 0);
        is("open then", p.open(1, 1), 1);
        is("clear of one of two", p.clear(0, 0, 0), 1);
        is("the other stays", p.on(0, 0), 1);
        is("many(3): all were done", p.many(3), 8);
        for (int wrong : new int[] {-1, 2, LEAST, MOST}) is("clear thing " + wrong, p.clear(wrong, 0, 0), BAD);
        for (int wrong : new int[] {-1, 3, LEAST, MOST}) is("clear x " + wrong, p.clear(0, wrong, 0), BAD);
        for (int wrong : new int[] {-1, 2, LEAST, MOST}) is("clear y " + wrong, p.clear(0, 0, wrong), BAD);
        is("many(3) behind BAD", p.many(3), 8);
    }

    private static void out() { // 6
        PianoHouse p = new PianoHouse();
        p.house(2, 2);
        Built.wall(p, true, 0, 0, 1, 1);
        Built.wall(p, false, 1, 1, 1, 1);
        is("out", p.out(0, true), 0);
        is("open where the door was", p.open(0, 0), 1);
        is("out again", p.out(0, true), 1);
        is("in again", p.out(0, false), 1);
        is("shut where the door is", p.open(0, 0), 0);
        is("in still", p.out(0, false), 0);
        is("out of no door", p.out(1, true), STATE);
        is("in of no door", p.out(1, false), STATE);
        for (int wrong : new int[] {-1, 2, 31, 32, LEAST, MOST}) is("out " + wrong, p.out(wrong, true), BAD);
        is("many(3)", p.many(3), 8);
    }

    private static void undo() { // 7
        PianoHouse p = new PianoHouse();
        p.house(4, 3);
        is("nothing to undo", p.undo(), STATE);
        long[] digests = new long[7];
        int[] counts = {4, 3, 3, 3, 2, 1, 0};
        digests[0] = p.digest();
        p.thing(true);
        digests[1] = p.digest();
        p.fill(0, 1, 0, 2, 3);
        digests[2] = p.digest();
        p.clear(0, 1, 1);
        digests[3] = p.digest();
        p.out(0, true);
        digests[4] = p.digest();
        p.thing(false);
        digests[5] = p.digest();
        p.fill(1, 0, 0, 1, 1);
        for (int i = 5; i >= 0; i--) {
            is("undo to " + i, p.undo(), i);
            is("digest of " + i, p.digest(), digests[i]);
            is("many(3) of " + i, p.many(3), i);
        }
        is("nothing left to undo", p.undo(), STATE);
        is("a thing after all was undone is new", p.thing(false), 0);
        is("it is no door", p.out(0, true), STATE);
        is("it has no squares", p.fill(0, 0, 0, 1, 1), 1);
        is("counts told", counts.length, digests.length);
        p.end(false, 2, 2, 2);
        p.rows(3);
        p.hold(1, 2);
        is("undo of fill alone", p.undo(), 1);
        is("undo leaves the rest", p.digest(), Built.digestOf(4, 3, NONE, NONE, NONE, NONE, NONE, NONE, NONE, NONE, NONE,
            NONE, NONE, NONE, 0, 0, NONE, NONE, NONE, 1, 2, 2, 2, 2, 0, 0, 0));
    }

    private static void undoKeepsTwenty() { // 7
        PianoHouse p = new PianoHouse();
        p.house(20, 2);
        p.thing(false);
        for (int i = 0; i < 20; i++) p.fill(0, i, 0, 1, 1);
        is("twenty are kept", p.many(3), 20);
        p.fill(0, 0, 1, 1, 1);
        for (int left = 19; left >= 0; left--) is("undo", p.undo(), left);
        is("the twenty-first is not kept", p.undo(), STATE);
        is("the first fill stays", p.open(0, 0), 0);
        is("the second was undone", p.open(1, 0), 1);
        is("the thing stays", p.many(2), 1);
        is("what is refused is not undone", p.fill(0, 0, 0, 0, 0), BAD);
        is("no undo of what was refused", p.undo(), STATE);
        for (int i = 0; i < 30; i++) p.clear(0, 19, 1);
        is("undo behind many", p.undo(), 19);
        p.fill(0, 5, 1, 1, 1);
        is("many(3) at twenty again", p.many(3), 20);
        is("undo of the latest", p.undo(), 19);
        is("open again", p.open(5, 1), 1);
    }

    private static void openAndOn() { // 8, 9
        PianoHouse p = new PianoHouse();
        p.house(3, 2);
        Built.wall(p, true, 0, 0, 2, 1);
        Built.wall(p, false, 1, 0, 2, 1);
        is("on a door alone", p.on(0, 0), 0);
        is("on two: the least", p.on(1, 0), 0);
        is("on the other", p.on(2, 0), 1);
        is("on none", p.on(2, 1), NONE);
        is("open on none", p.open(2, 1), 1);
        is("shut by a door", p.open(0, 0), 0);
        p.out(0, true);
        is("on a door that is out", p.on(0, 0), NONE);
        is("open: the door is out", p.open(0, 0), 1);
        is("on two, one out", p.on(1, 0), 1);
        is("shut by the other", p.open(1, 0), 0);
        for (int wrong : new int[] {-1, 3, LEAST, MOST}) {
            is("open x " + wrong, p.open(wrong, 0), BAD);
            is("on x " + wrong, p.on(wrong, 0), BAD);
        }
        for (int wrong : new int[] {-1, 2, LEAST, MOST}) {
            is("open y " + wrong, p.open(0, wrong), BAD);
            is("on y " + wrong, p.on(0, wrong), BAD);
        }
    }

    private static void rows() { // 10
        PianoHouse p = new PianoHouse();
        is("rows(6)", p.rows(6), 6);
        is("told(5)", p.told(5), FINDING);
        p.row(0, 9);
        is("rows(7)", p.rows(7), BAD);
        is("rows(MOST)", p.rows(MOST), BAD);
        is("no finding of BAD", p.findings(4), 0);
        is("rows(-1)", p.rows(-1), FINDING);
        is("rows(LEAST)", p.rows(LEAST), FINDING);
        is("SIZE", p.finding(), 4);
        is("SIZE twice", p.findings(4), 2);
        is("refused: told(0) as it was", p.told(0), 9);
        is("rows(6) again", p.rows(6), 6);
        is("all missing", p.told(0), FINDING);
        is("rows(0)", p.rows(0), 0);
        is("none there", p.row(0, 1), FINDING);
        is("load(3)", p.load(3), 0);
    }

    private static void rowTearTold() { // 11, 12, 14
        PianoHouse p = new PianoHouse();
        p.rows(3);
        is("row(2, 63)", p.row(2, 63), 1);
        is("row(0, 0)", p.row(0, 0), 1);
        is("told(2)", p.told(2), 63);
        is("told(0)", p.told(0), 0);
        is("told(1)", p.told(1), FINDING);
        is("NOTHING", p.finding(), 1);
        for (int wrong : new int[] {-1, 3, 6, LEAST, MOST}) {
            int before = p.findings(2);
            is("row " + wrong, p.row(wrong, 1), FINDING);
            is("BEYOND", p.finding(), 2);
            is("tear " + wrong, p.tear(wrong), FINDING);
            is("told " + wrong, p.told(wrong), FINDING);
            is("BEYOND thrice", p.findings(2), before + 3);
        }
        for (int wrong : new int[] {-1, 64, LEAST, MOST}) {
            is("bits " + wrong, p.row(0, wrong), BAD);
            is("bits " + wrong + " of no row: BAD first", p.row(9, wrong), BAD);
        }
        is("refused: told(0) as it was", p.told(0), 0);
        is("tear(2)", p.tear(2), 1);
        is("told(2) then", p.told(2), FINDING);
        is("tear(2) again", p.tear(2), FINDING);
        is("NOTHING then", p.finding(), 1);
        is("row again", p.row(2, 7), 1);
        is("told again", p.told(2), 7);
        is("row over a row", p.row(2, 8), 1);
        is("told over a row", p.told(2), 8);
    }

    private static void copy() { // 13
        PianoHouse p = new PianoHouse();
        p.rows(5);
        for (int j = 0; j < 4; j++) p.row(j, j + 1);
        is("copy up over itself", p.copy(0, 1, 3), 1);
        is("told(0)", p.told(0), 1);
        is("told(1)", p.told(1), 1);
        is("told(2)", p.told(2), 2);
        is("told(3)", p.told(3), 3);
        is("copy down over itself, a missing one too", p.copy(2, 1, 3), 1);
        is("told(1)", p.told(1), 2);
        is("told(2)", p.told(2), 3);
        is("told(3) missing", p.told(3), FINDING);
        is("told(4) missing", p.told(4), FINDING);
        is("NOTHING", p.finding(), 1);
        is("copy of none", p.copy(1, 2, 0), 1);
        is("copy of none at the end", p.copy(5, 5, 0), 1);
        long before = p.digest();
        int[][] wrong = {{-1, 0, 1}, {0, -1, 1}, {0, 0, -1}, {0, 0, 6}, {3, 0, 3}, {0, 3, 3}, {6, 0, 0}, {0, 6, 0},
            {-1, 0, 0}, {1, 0, MOST}, {MOST, 0, 1}, {0, MOST, 1}, {MOST, MOST, MOST}, {LEAST, LEAST, LEAST}, {5, 0, 1}};
        for (int[] w : wrong) {
            is("copy(" + w[0] + ", " + w[1] + ", " + w[2] + ")", p.copy(w[0], w[1], w[2]), FINDING);
            is("BEYOND", p.finding(), 2);
        }
        is("BEYOND, each", p.findings(2), wrong.length);
        is("all or none", p.digest(), before);
    }

    private static void holdAndLoad() { // 15, 16
        PianoHouse p = new PianoHouse();
        is("no load: squares", p.load(0), 0);
        is("no load: whole", p.load(1), 0);
        is("no load: farthest", p.load(2), 0);
        p.rows(6);
        p.row(5, 32);
        is("a row lacks", p.load(1), 0);
        is("one square though", p.load(0), 1);
        is("farthest of (5, 5) from (0, 0)", p.load(2), 72);
        is("hold(6, 6)", p.hold(6, 6), 1);
        is("farthest of (5, 5) from (6, 6)", p.load(2), 2);
        for (int j = 0; j < 5; j++) p.row(j, 0);
        is("whole with empty rows", p.load(1), 1);
        p.tear(0);
        is("the first alone lacks", p.load(1), 0);
        p.row(0, 3);
        is("three squares", p.load(0), 3);
        is("farthest of (0, 0) from (6, 6)", p.load(2), 72);
        is("hold(0, 6)", p.hold(0, 6), 1);
        is("farthest from (0, 6)", p.load(2), 40);
        is("six rows", p.load(3), 6);
        p.tear(5);
        is("whole: the last may lack", p.load(1), 1);
        is("squares then", p.load(0), 2);
        p.row(0, 0);
        is("no square: not whole", p.load(1), 0);
        is("no square: farthest", p.load(2), 0);
        for (int wrong : new int[] {-1, 7, LEAST, MOST}) {
            is("hold x " + wrong, p.hold(wrong, 0), BAD);
            is("hold y " + wrong, p.hold(0, wrong), BAD);
        }
        for (int wrong : new int[] {-1, 4, LEAST, MOST}) is("load " + wrong, p.load(wrong), BAD);
        p.row(0, 1);
        is("refused: the hold as it was", p.load(2), 37);
    }

    private static void free() { // 17
        PianoHouse p = Built.withLoad(3, 2, 3);
        is("free(0, 0, 0)", p.free(0, 0, 0), 1);
        is("free(1, 1, 0)", p.free(1, 1, 0), 1);
        is("free(2, 0, 0)", p.free(2, 0, 0), 0);
        is("free(0, 2, 0): beyond the house", p.free(0, 2, 0), 0);
        is("free(1, 0, 1): on x 0, up", p.free(1, 0, 1), 1);
        is("free(0, 0, 1)", p.free(0, 0, 1), 0);
        is("free(3, 0, 1): on the last line", p.free(3, 0, 1), 1);
        is("free(2, 1, 2): on x 0 and 1", p.free(2, 1, 2), 1);
        is("free(3, 2, 2)", p.free(3, 2, 2), 1);
        is("free(1, 1, 2)", p.free(1, 1, 2), 0);
        is("free(0, 2, 3): on x 0, down", p.free(0, 2, 3), 1);
        is("free(0, 1, 3)", p.free(0, 1, 3), 0);
        int t = Built.wall(p, false, 1, 0, 1, 1);
        is("free(0, 0, 0) with a thing", p.free(0, 0, 0), 0);
        is("free(0, 1, 0) beside it", p.free(0, 1, 0), 1);
        p.clear(t, 1, 0);
        is("free(0, 0, 0) without", p.free(0, 0, 0), 1);
        wrongStates("free", p);
        p.row(0, 2);
        is("another load: (0, 0, 0)", p.free(0, 0, 0), 1);
        is("another load: (1, 0, 0)", p.free(1, 0, 0), 1);
        is("another load: (2, 0, 0)", p.free(2, 0, 0), 0);
        p.rows(1);
        is("free: not whole", p.free(0, 0, 0), STATE);
        is("free: BAD first", p.free(4, 0, 0), BAD);
    }

    /** All calls of a place in a position refuse what is none; also when the load is not whole. */
    private static void wrongStates(String when, PianoHouse p) {
        int[][] wrong = {{-1, 0, 0}, {0, -1, 0}, {0, 0, -1}, {0, 0, 4}, {p.many(0) + 1, 0, 0}, {0, p.many(1) + 1, 0},
            {MOST, 0, 0}, {0, LEAST, 0}, {0, 0, MOST}};
        for (int[] s : wrong) {
            String at = when + ": (" + s[0] + ", " + s[1] + ", " + s[2] + ") ";
            is(at + "free", p.free(s[0], s[1], s[2]), BAD);
            is(at + "kind", p.kind(s[0], s[1], s[2]), BAD);
            is(at + "steps", p.steps(s[0], s[1], s[2], 0), BAD);
            is(at + "piece", p.piece(s[0], s[1], s[2]), BAD);
            is(at + "slide", p.slide(s[0], s[1], s[2], 0), BAD);
            is(at + "reaches", p.reaches(s[0], s[1], s[2]), BAD);
            is(at + "end", p.end(false, s[0], s[1], s[2]), BAD);
            is(at + "end", p.end(true, s[0], s[1], s[2]), BAD);
        }
    }

    private static void freeAboutTheHold() { // 17
        PianoHouse p = new PianoHouse();
        p.house(20, 20);
        p.rows(3);
        p.row(0, 1);
        p.row(1, 1);
        p.row(2, 7);
        p.hold(1, 2);
        // About the hold: (-1, -2), (-1, -1), (-1, 0), (0, 0), (1, 0).
        is("free(1, 2, 0)", p.free(1, 2, 0), 1);
        is("free(0, 2, 0)", p.free(0, 2, 0), 0);
        is("free(1, 1, 0)", p.free(1, 1, 0), 0);
        is("free(18, 19, 0)", p.free(18, 19, 0), 1);
        is("free(19, 19, 0)", p.free(19, 19, 0), 0);
        is("free(18, 20, 0)", p.free(18, 20, 0), 0);
        // Turned once: (1, -1), (0, -1), (-1, -1), (-1, 0), (-1, 1).
        is("free(1, 1, 1)", p.free(1, 1, 1), 1);
        is("free(1, 0, 1)", p.free(1, 0, 1), 0);
        is("free(18, 18, 1)", p.free(18, 18, 1), 1);
        is("free(18, 19, 1)", p.free(18, 19, 1), 0);
        is("free(19, 18, 1)", p.free(19, 18, 1), 0);
        // Turned twice: (0, 1), (0, 0), (0, -1), (-1, -1), (-2, -1).
        is("free(2, 1, 2)", p.free(2, 1, 2), 1);
        is("free(1, 1, 2)", p.free(1, 1, 2), 0);
        is("free(19, 18, 2)", p.free(19, 18, 2), 1);
        is("free(20, 18, 2)", p.free(20, 18, 2), 0);
        // Turned thrice: (-2, 0), (-1, 0), (0, 0), (0, -1), (0, -2).
        is("free(2, 2, 3)", p.free(2, 2, 3), 1);
        is("free(2, 1, 3)", p.free(2, 1, 3), 0);
        is("free(19, 19, 3)", p.free(19, 19, 3), 1);
        is("free(19, 20, 3)", p.free(19, 20, 3), 0);
        p.house(5, 5);
        is("a smaller house: its topmost row", p.free(3, 4, 0), 1);
        is("a smaller house: beyond it upward", p.free(3, 5, 0), 0);
        is("a smaller house: beyond it along", p.free(4, 4, 0), 0);
        p.house(20, 20);
        Built.wall(p, false, 10, 10, 1, 1);
        is("one of its squares on a thing", p.free(11, 12, 0), 0);
        is("a gap of it on a thing", p.free(10, 11, 0), 1);
        is("the other gap", p.free(9, 11, 0), 1);
    }

    private static void turning() { // 18
        PianoHouse p = Built.withLoad(6, 6, 3);
        // Held at a corner: farthest 5, so all squares within the root of 5: three each way but the corners.
        is("farthest", p.load(2), 5);
        is("turning(3, 3)", p.turning(3, 3), 1);
        is("turning(2, 3)", p.turning(2, 3), 0);
        is("turning(3, 4)", p.turning(3, 4), 0);
        int t = Built.wall(p, false, 0, 0, 1, 1);
        is("a thing at the corner, (2, 2) from the hold, is not near", p.turning(3, 3), 1);
        p.clear(t, 0, 0);
        p.fill(t, 0, 1, 1, 1);
        is("a thing at (2, 1) from the hold: no point is nearer than the root of 5", p.turning(3, 3), 1);
        p.clear(t, 0, 1);
        p.fill(t, 0, 2, 1, 1);
        is("a thing at (2, 0) is near", p.turning(3, 3), 0);
        is("turning(4, 3)", p.turning(4, 3), 0);
        for (int wrong : new int[] {-1, 7, LEAST, MOST}) {
            is("turning x " + wrong, p.turning(wrong, 0), BAD);
            is("turning y " + wrong, p.turning(0, wrong), BAD);
        }
        p.tear(0);
        is("turning: not whole", p.turning(0, 0), STATE);
        is("turning: BAD first", p.turning(0, 7), BAD);
        PianoHouse large = new PianoHouse();
        large.house(20, 20);
        large.rows(6);
        for (int j = 0; j < 6; j++) large.row(j, j == 5 ? 32 : 0);
        is("farthest of all", large.load(2), 72);
        is("turning(9, 9) wants nine squares each way", large.turning(9, 9), 1);
        is("turning(8, 9)", large.turning(8, 9), 0);
        is("turning(11, 11)", large.turning(11, 11), 1);
        is("turning(12, 11)", large.turning(12, 11), 0);
        Built.wall(large, false, 0, 9, 1, 1);
        is("turning(9, 9) shut at its edge", large.turning(9, 9), 0);
        is("turning(10, 9) beside it", large.turning(10, 9), 1);
    }

    private static void kind() { // 19
        PianoHouse p = Built.withLoad(6, 6, 3);
        is("TURNING", p.kind(3, 3, 2), 2);
        is("FREE", p.kind(0, 0, 0), 1);
        is("PLACE: free in another position alone", p.kind(0, 0, 1), 0);
        is("a corner is free in one position", p.kind(6, 6, 2), 1);
        Built.wall(p, false, 0, 0, 6, 6);
        is("SHUT", p.kind(3, 3, 0), 4);
        p.clear(0, 2, 2);
        p.clear(0, 3, 2);
        is("TIGHT", p.kind(2, 2, 0), 3);
        is("TIGHT from the other end", p.kind(4, 3, 2), 3);
        is("PLACE beside", p.kind(2, 2, 1), 0);
        is("SHUT in the middle", p.kind(3, 2, 0), 4);
        p.clear(0, 4, 2);
        is("TIGHT no more", p.kind(2, 2, 0), 1);
        p.row(0, 1);
        is("a single square is FREE", p.kind(2, 2, 0), 1);
        p.rows(1);
        is("kind: not whole", p.kind(0, 0, 0), STATE);
        is("kind: BAD first", p.kind(0, 0, 4), BAD);
        PianoHouse one = Built.withLoad(1, 1, 1);
        is("one square fills the house: TIGHT", one.kind(0, 0, 0), 3);
        is("one square, turned", one.kind(1, 0, 1), 3);
        is("one square, elsewhere", one.kind(1, 0, 0), 0);
    }

    private static void steps() { // 20
        PianoHouse p = Built.withLoad(6, 6, 3);
        is("all four", p.steps(3, 3, 0, 2), 4);
        is("TURNING is FREE", p.steps(3, 3, 0, 1), 4);
        is("TURNING is a PLACE", p.steps(3, 3, 0, 0), 4);
        is("TURNING is not TIGHT", p.steps(3, 3, 0, 3), FINDING);
        is("UNLIKE", p.finding(), 3);
        is("TURNING is not SHUT", p.steps(3, 3, 0, 4), FINDING);
        is("a corner", p.steps(0, 0, 0, 1), 2);
        is("FREE is not TURNING", p.steps(0, 0, 0, 2), FINDING);
        is("an edge", p.steps(2, 0, 0, 0), 3);
        is("PLACE", p.steps(0, 0, 1, 0), 0);
        is("PLACE is not FREE", p.steps(0, 0, 1, 1), FINDING);
        is("PLACE is not SHUT", p.steps(0, 0, 1, 4), FINDING);
        is("UNLIKE, each", p.findings(3), 5);
        Built.wall(p, false, 0, 0, 6, 6);
        is("SHUT", p.steps(3, 3, 0, 4), 0);
        is("SHUT is a PLACE", p.steps(3, 3, 0, 0), 0);
        is("SHUT is not TIGHT", p.steps(3, 3, 0, 3), FINDING);
        p.clear(0, 2, 2);
        p.clear(0, 3, 2);
        is("TIGHT", p.steps(2, 2, 0, 3), 0);
        is("TIGHT is FREE", p.steps(2, 2, 0, 1), 0);
        is("TIGHT is a PLACE", p.steps(2, 2, 0, 0), 0);
        is("TIGHT is not TURNING", p.steps(2, 2, 0, 2), FINDING);
        for (int wrong : new int[] {-1, 5, LEAST, MOST}) is("steps kind " + wrong, p.steps(0, 0, 0, wrong), BAD);
        p.tear(0);
        int before = p.findings(3);
        is("steps: not whole ahead of UNLIKE", p.steps(0, 0, 0, 4), STATE);
        is("steps: BAD first", p.steps(0, 0, 0, 5), BAD);
        is("no finding", p.findings(3), before);
    }

    private static void pieces() { // 21, 22
        PianoHouse p = Built.withLoad(5, 5, 3);
        Built.wall(p, false, 0, 1, 5, 1);
        Built.wall(p, false, 2, 3, 1, 2);
        is("pieces(0)", p.pieces(0), 2);
        is("the lowest is the first", p.piece(3, 0, 0), 0);
        is("behind the wall", p.piece(0, 2, 0), 1);
        is("on the left", p.piece(0, 4, 0), 1);
        is("on the right", p.piece(3, 4, 0), 1);
        is("not free", p.piece(1, 4, 0), NONE);
        is("not free: beyond", p.piece(5, 0, 0), NONE);
        p.fill(0, 2, 2, 1, 1);
        is("pieces(0) then", p.pieces(0), 3);
        is("left of the wall", p.piece(0, 4, 0), 1);
        is("right of the wall", p.piece(3, 4, 0), 2);
        is("pieces(1): two deep fits not below", p.pieces(1), 2);
        is("piece of position 1", p.piece(5, 2, 1), 1);
        p.row(0, 63);
        is("no piece", p.pieces(0), 0);
        for (int wrong : new int[] {-1, 4, LEAST, MOST}) is("pieces " + wrong, p.pieces(wrong), BAD);
        p.rows(1);
        is("pieces: not whole", p.pieces(0), STATE);
        is("pieces: BAD first", p.pieces(4), BAD);
        is("piece: not whole", p.piece(0, 0, 0), STATE);
        is("piece: BAD first", p.piece(0, 6, 0), BAD);
        PianoHouse upper = Built.withLoad(4, 3, 1);
        Built.wall(upper, false, 1, 0, 1, 2);
        Built.wall(upper, false, 1, 2, 2, 1);
        is("by the least place, not the last", upper.piece(0, 2, 0), 0);
        is("by y, then x", upper.piece(3, 2, 0), 1);
        is("two", upper.pieces(0), 2);
    }

    private static void piecesOnTheLastLines() { // 21, 22, 23
        PianoHouse p = Built.withLoad(20, 20, 1);
        Built.wall(p, false, 0, 0, 20, 19);
        is("none but on the topmost row", p.pieces(2), 1);
        is("it starts at line 1", p.piece(1, 20, 2), 0);
        is("it ends on the last lines", p.piece(20, 20, 2), 0);
        is("nothing at line 0", p.piece(0, 20, 2), NONE);
        is("twenty places", p.area(2, 0, 0), 20);
        is("upright it starts at line 1", p.piece(1, 19, 1), 0);
        is("upright it ends at line 20", p.piece(20, 19, 1), 0);
        is("twenty places upright", p.area(1, 0, 0), 20);
        p.clear(0, 19, 0);
        is("two then", p.pieces(2), 2);
        is("the corner is the first", p.piece(20, 1, 2), 0);
        is("the row is the second", p.piece(20, 20, 2), 1);
        is("the hem of the corner", p.area(2, 0, 2), 1);
        p.fill(0, 19, 19, 1, 1);
        is("nineteen places", p.area(2, 1, 0), 19);
        p.fill(0, 0, 19, 19, 1);
        p.clear(0, 19, 19);
        is("the last corner alone is the second", p.piece(20, 20, 2), 1);
        is("two still", p.pieces(2), 2);
        is("one place", p.area(2, 1, 0), 1);
    }

    private static void area() { // 23
        PianoHouse p = Built.withLoad(8, 6, 3);
        is("places", p.area(0, 0, 0), 42);
        is("of these turning: x 3 to 5, y 3", p.area(0, 0, 1), 3);
        is("hem: all but x 1 to 5, y 1 to 4", p.area(0, 0, 2), 22);
        Built.wall(p, false, 3, 0, 1, 6);
        is("places on the left", p.area(0, 0, 0), 12);
        is("places on the right", p.area(0, 1, 0), 18);
        is("no turning", p.area(0, 1, 1), 0);
        is("hem on the left", p.area(0, 0, 2), 12);
        is("hem on the right", p.area(0, 1, 2), 14);
        is("another position", p.area(1, 1, 0), 20);
        is("no third piece", p.area(0, 2, 0), BAD);
        for (int wrong : new int[] {-1, 4, LEAST, MOST}) is("area q " + wrong, p.area(wrong, 0, 0), BAD);
        for (int wrong : new int[] {-1, 3, LEAST, MOST}) is("area what " + wrong, p.area(0, 0, wrong), BAD);
        for (int wrong : new int[] {-1, 500, LEAST, MOST}) is("area piece " + wrong, p.area(0, wrong, 0), BAD);
        p.tear(0);
        is("area: not whole", p.area(0, 0, 0), STATE);
        is("area: BAD first", p.area(0, 0, 3), BAD);
        is("area: BAD first", p.area(4, 0, 0), BAD);
        is("area: BAD first", p.area(0, -1, 0), BAD);
    }

    private static void slide() { // 24
        PianoHouse p = Built.withLoad(20, 20, 1);
        is("slide along", p.slide(0, 0, 0, 0), 19);
        is("slide back", p.slide(19, 0, 0, 1), 19);
        is("slide up", p.slide(0, 3, 0, 2), 16);
        is("slide down", p.slide(0, 3, 0, 3), 3);
        is("slide down at once", p.slide(0, 0, 0, 3), 0);
        Built.wall(p, false, 7, 0, 1, 1);
        is("slide to a thing", p.slide(2, 0, 0, 0), 4);
        is("slide from a thing", p.slide(7, 0, 0, 0), NONE);
        is("not behind it", p.slide(8, 0, 0, 1), 0);
        is("in another position", p.slide(7, 0, 1, 1), 6);
        for (int wrong : new int[] {-1, 4, 5, LEAST, MOST}) is("slide step " + wrong, p.slide(0, 0, 0, wrong), BAD);
        p.rows(0);
        is("slide: not whole", p.slide(0, 0, 0, 0), STATE);
        is("slide: BAD first", p.slide(0, 0, 0, 4), BAD);
    }

    private static void end() { // 25
        PianoHouse p = new PianoHouse();
        p.house(2, 3);
        is("end begins, without a load", p.end(false, 2, 3, 3), 1);
        is("end is the goal", p.end(true, 1, 0, 2), 1);
        wrongStates("no load", p);
        is("digest tells both", p.digest(),
            Built.digestOf(2, 3, NONE, NONE, NONE, NONE, NONE, NONE, 0, 0, 2, 3, 3, 1, 0, 2));
    }

    private static void wayOfFewestTurns() { // 26, 28
        PianoHouse p = Built.withLoad(6, 6, 3);
        p.end(false, 3, 3, 0);
        p.end(true, 3, 3, 2);
        isText("half a turn: 4 is less", Built.wayText(p), "44");
        is("turns", p.count(0), 2);
        is("slides", p.count(1), 0);
        p.end(true, 3, 3, 3);
        isText("three quarters", Built.wayText(p), "5");
        p.end(true, 6, 3, 1);
        isText("turned, then along", Built.wayText(p), "4000");
        is("slides", p.count(1), 1);
        p.end(false, 1, 3, 0);
        isText("along, turned, along", Built.wayText(p), "004000");
        is("a turn parts slides", p.count(1), 2);
        is("turns", p.count(0), 1);
        p.end(true, 1, 3, 0);
        is("from a place to itself", p.way(), 0);
        is("turns of none", p.count(0), 0);
        is("slides of none", p.count(1), 0);
        is("step 0 of none", p.step(0), NONE);
        PianoHouse round = longWayRound();
        is("no turn, though the way is longer", round.count(0), 0);
    }

    /** A wall that a flat load passes only at its far end: with turns it would be nearer. */
    private static PianoHouse longWayRound() {
        PianoHouse p = Built.withLoad(20, 15, 3);
        Built.wall(p, false, 0, 7, 18, 1);
        p.clear(0, 3, 7);
        p.end(false, 4, 4, 0);
        p.end(true, 4, 11, 0);
        is("way round", p.way(), 35);
        is("free upright in the gap", p.free(4, 7, 1), 1);
        is("may be turned below", p.turning(4, 4), 1);
        is("may be turned above", p.turning(4, 11), 1);
        return p;
    }

    private static void wayOfLeastLastSteps() { // 26, 27
        PianoHouse p = Built.withLoad(4, 4, 1);
        p.end(true, 3, 3, 0);
        isText("last steps the least", Built.wayText(p), "222000");
        p.end(false, 3, 3, 0);
        p.end(true, 0, 0, 0);
        isText("1 ahead of 3 at the end", Built.wayText(p), "333111");
        p.end(false, 0, 3, 0);
        p.end(true, 3, 0, 0);
        isText("0 ahead of 3 at the end", Built.wayText(p), "333000");
        is("two slides", p.count(1), 2);
        Built.wall(p, false, 2, 0, 1, 1);
        isText("3 where 0 is shut", Built.wayText(p), "330003");
        is("three slides", p.count(1), 3);
        is("no turns", p.count(0), 0);
        is("step(5)", p.step(5), 3);
        for (int wrong : new int[] {-1, 6, LEAST, MOST}) is("step " + wrong, p.step(wrong), NONE);
        for (int wrong : new int[] {-1, 2, LEAST, MOST}) is("count " + wrong, p.count(wrong), BAD);
    }

    private static void latestWay() { // 26, 27, 28
        PianoHouse p = Built.withLoad(3, 1, 1);
        is("BAD ahead of NONE", p.count(2), BAD);
        p.end(true, 2, 0, 0);
        is("way", p.way(), 2);
        p.house(1, 1);
        p.tear(0);
        is("way: not whole", p.way(), STATE);
        is("the way of before", p.step(1), 0);
        is("its turns", p.count(0), 0);
        is("its slides", p.count(1), 1);
        p.row(0, 1);
        p.end(true, 0, 1, 0);
        is("the goal is not free", p.way(), NONE);
        is("no step", p.step(0), NONE);
        is("no turns", p.count(0), NONE);
        is("no slides", p.count(1), NONE);
        p.end(false, 0, 1, 0);
        is("the beginning is not free, nor the goal, which is it", p.way(), NONE);
        p.end(true, 0, 0, 0);
        is("the beginning is not free", p.way(), NONE);
    }

    private static void reached() { // 29, 30
        PianoHouse p = Built.withLoad(6, 6, 3);
        p.end(false, 0, 0, 0);
        is("all positions by the turn in the middle", p.reached(), 4 * 30);
        is("reaches another position", p.reaches(6, 6, 2), 1);
        is("reaches itself", p.reaches(0, 0, 0), 1);
        is("not what is not free", p.reaches(0, 0, 1), 0);
        Built.wall(p, false, 3, 3, 1, 1);
        is("not what no turn leads to any more", p.reaches(6, 6, 2), 0);
        is("no turn any more", p.reached(), 28);
        is("reaches in this position", p.reaches(4, 5, 0), 1);
        is("not in another", p.reaches(6, 6, 2), 0);
        p.end(false, 5, 0, 0);
        is("the beginning is not free", p.reached(), 0);
        is("reaches nothing", p.reaches(5, 0, 0), 0);
        p.rows(1);
        is("reached: not whole", p.reached(), STATE);
        is("reaches: not whole", p.reaches(0, 0, 0), STATE);
        is("reaches: BAD first", p.reaches(0, 0, 4), BAD);
    }

    private static void held() { // 31
        PianoHouse p = Built.withLoad(7, 3, 1);
        Built.wall(p, false, 2, 0, 1, 3);
        Built.wall(p, true, 2, 1, 1, 1);
        Built.wall(p, false, 4, 0, 1, 3);
        Built.wall(p, true, 2, 2, 1, 1);
        p.end(true, 6, 2, 0);
        is("held by what is beside, all that are on it, not what is behind", p.held(), 1 + 2 + 8);
        p.out(3, true);
        is("not by a door that is out", p.held(), 1 + 2);
        p.end(true, 1, 2, 0);
        is("with a way by none", p.held(), 0);
        p.end(true, 7, 2, 0);
        is("the goal is not free", p.held(), 1 + 2);
        p.end(false, 2, 0, 0);
        is("the beginning is not free", p.held(), 0);
        p.tear(0);
        is("held: not whole", p.held(), STATE);
        heldByTurns();
    }

    private static void heldByTurns() { // 31
        PianoHouse turn = Built.withLoad(6, 6, 1);
        Built.wall(turn, true, 4, 4, 1, 1);
        turn.end(true, 0, 0, 0);
        turn.end(false, 3, 3, 0);
        is("there is a way", turn.held(), 0);
        Built.wall(turn, false, 0, 0, 6, 1);
        Built.wall(turn, false, 0, 5, 6, 1);
        Built.wall(turn, false, 0, 0, 1, 6);
        Built.wall(turn, false, 5, 0, 1, 6);
        turn.end(true, 3, 3, 1);
        is("a turn leads there", turn.held(), 0);
        turn.end(true, 0, 0, 1);
        is("held by all about", turn.held(), 31);
        PianoHouse slot = Built.withLoad(5, 5, 1);
        Built.wall(slot, false, 1, 1, 3, 3);
        slot.clear(0, 2, 2);
        Built.wall(slot, false, 0, 0, 5, 1);
        slot.end(false, 2, 2, 0);
        slot.end(true, 4, 4, 0);
        is("held by what forbids a turn, also", slot.held(), 1 + 2);
        Built.wall(slot, true, 1, 1, 1, 1);
        is("a door at the corner forbids the turn alone", slot.held(), 1 + 2 + 4);
        Built.wall(slot, true, 3, 3, 1, 1);
        is("one at the other corner is not near enough", slot.held(), 1 + 2 + 4);
        slot.row(0, 3);
        is("not free", slot.held(), 0);
    }

    private static void heldAtTheLastLine() { // 31
        PianoHouse p = new PianoHouse();
        p.house(4, 1);
        p.rows(1);
        p.row(0, 1);
        p.hold(2, 0);
        Built.wall(p, false, 3, 0, 1, 1);
        p.end(false, 4, 0, 0);
        p.end(true, 0, 0, 0);
        is("it lies at x 2", p.free(4, 0, 0), 1);
        is("on the last line: held by what the turn needs", p.held(), 1);
        p.row(0, 3);
        is("not free", p.held(), 0);
        PianoHouse far = new PianoHouse();
        far.house(6, 1);
        far.rows(1);
        far.row(0, 1);
        far.hold(4, 0);
        Built.wall(far, false, 3, 0, 1, 1);
        far.end(false, 6, 0, 0);
        is("one square at x 2, held at 6", far.free(6, 0, 0), 1);
        is("farthest", far.load(2), 17);
        is("far from its hold: its turn needs x 3", far.held(), 1);
    }

    private static void doors() { // 32
        PianoHouse p = Built.withLoad(7, 3, 1);
        Built.wall(p, false, 5, 0, 1, 1);
        Built.wall(p, true, 1, 0, 1, 3);
        Built.wall(p, true, 3, 0, 1, 2);
        Built.wall(p, true, 3, 2, 1, 1);
        Built.wall(p, true, 5, 1, 1, 2);
        p.end(true, 6, 0, 0);
        is("three doors, the least of two for the second", p.doors(), 2 + 4 + 16);
        p.out(3, true);
        is("one of them is out", p.doors(), 2 + 16);
        p.out(3, false);
        p.end(true, 4, 0, 0);
        is("two doors", p.doors(), 2 + 4);
        p.end(true, 0, 2, 0);
        is("there is a way", p.doors(), 0);
        p.end(true, 5, 0, 0);
        is("not with all", p.doors(), NONE);
        p.end(true, 7, 0, 0);
        is("not free", p.doors(), NONE);
        long before = p.digest();
        p.end(true, 6, 0, 0);
        p.doors();
        p.end(true, 7, 0, 0);
        is("no door is out for it", p.digest(), before);
        is("many(3) as before", p.many(3), 12);
        p.rows(0);
        is("doors: not whole", p.doors(), STATE);
        PianoHouse fewer = Built.withLoad(5, 3, 1);
        Built.wall(fewer, true, 1, 0, 1, 2);
        Built.wall(fewer, true, 3, 0, 1, 2);
        Built.wall(fewer, true, 1, 2, 3, 1);
        fewer.end(true, 4, 0, 0);
        is("one door, though its bit is greater than those of two", fewer.doors(), 4);
        PianoHouse own = Built.withLoad(3, 1, 1);
        Built.wall(own, true, 0, 0, 1, 1);
        own.end(true, 2, 0, 0);
        is("the door on which it begins", own.doors(), 1);
    }

    private static void narrow() { // 33
        PianoHouse p = Built.withLoad(9, 9, 1);
        p.end(false, 4, 4, 0);
        p.end(true, 4, 4, 0);
        is("narrow(9): the middle stays open for four", p.narrow(9), 4);
        is("narrow(4)", p.narrow(4), 4);
        is("narrow(3)", p.narrow(3), 3);
        is("narrow(0)", p.narrow(0), 0);
        p.end(true, 6, 4, 0);
        is("not so far", p.narrow(9), 2);
        Built.wall(p, false, 2, 2, 1, 1);
        is("one that is shut shuts what is beside, by a corner too", p.narrow(9), 1);
        p.end(true, 2, 2, 0);
        is("none with 0", p.narrow(9), NONE);
        is("none with 0, at most 0", p.narrow(0), NONE);
        long before = p.digest();
        p.narrow(3);
        is("nothing grows for good", p.digest(), before);
        for (int wrong : new int[] {-1, 10, LEAST, MOST}) is("narrow " + wrong, p.narrow(wrong), BAD);
        p.tear(0);
        is("narrow: not whole", p.narrow(0), STATE);
        is("narrow: BAD first", p.narrow(10), BAD);
        narrowOneSide(2, 0, 4, 1);
        narrowOneSide(2, 4, 4, 1);
        narrowOneSide(0, 2, 1, 4);
        narrowOneSide(4, 2, 1, 4);
        PianoHouse large = Built.withLoad(20, 20, 1);
        large.end(false, 10, 10, 0);
        large.end(true, 10, 10, 0);
        is("narrow(9) of 20 by 20", large.narrow(9), 9);
    }

    /** In a house of 5 by 5 what shuts comes near the middle from one side alone. */
    private static void narrowOneSide(int x, int y, int w, int h) {
        PianoHouse p = Built.withLoad(5, 5, 1);
        p.end(false, 2, 2, 0);
        p.end(true, 2, 2, 0);
        is("from no side", p.narrow(9), 2);
        Built.wall(p, false, x, y, w, h);
        is("from one side: " + x + ", " + y, p.narrow(9), 1);
    }

    private static void draft() { // 34
        PianoHouse p = new PianoHouse();
        for (int i = 1; i <= 200; i++) is("draft", p.draft(i % 6), i);
        is("the 201st", p.draft(0), FULL);
        is("the 201st, wrong: BAD first", p.draft(6), BAD);
        is("many(4)", p.many(4), 200);
        is("check: not whole", p.check(), STATE);
        is("empty then", p.many(4), 0);
        for (int wrong : new int[] {-1, 6, LEAST, MOST}) is("draft " + wrong, p.draft(wrong), BAD);
        is("refused: empty still", p.many(4), 0);
        is("the first again", p.draft(5), 1);
    }

    private static void check() { // 35
        PianoHouse p = Built.withLoad(6, 6, 3);
        p.end(false, 3, 3, 0);
        p.end(true, 4, 3, 1);
        Built.drafted(p, "40");
        is("a way", p.check(), 1);
        is("many(4)", p.many(4), 0);
        is("empty: it ends elsewhere", p.check(), -10);
        Built.drafted(p, "55502301");
        is("a way with needless steps", p.check(), 1);
        Built.drafted(p, "55501000");
        is("it ends elsewhere: its length", p.check(), -18);
        Built.drafted(p, "5550");
        is("three turns back", p.check(), 1);
        Built.drafted(p, "04");
        is("no turn there: the second step", p.check(), -11);
        Built.drafted(p, "4440000000");
        is("beyond the house: the sixth step", p.check(), -15);
        Built.drafted(p, "4");
        is("it ends elsewhere: its length", p.check(), -11);
        p.end(true, 3, 3, 0);
        is("no steps lead from a place to itself", p.check(), 1);
        p.end(false, 6, 0, 0);
        p.end(true, 6, 0, 0);
        is("the beginning is not free, no steps", p.check(), -10);
        Built.drafted(p, "10");
        is("the beginning is not free: the first step is none", p.check(), -10);
        Built.drafted(p, "1");
        p.rows(1);
        is("check: not whole", p.check(), STATE);
        is("empty then, too", p.many(4), 0);
        PianoHouse other = Built.withLoad(6, 6, 3);
        other.end(false, 3, 3, 0);
        other.end(true, 4, 3, 0);
        other.way();
        Built.drafted(other, "0");
        is("check", other.check(), 1);
        is("check leaves the latest way", other.step(0), 0);
    }

    private static void many() { // 36
        PianoHouse p = new PianoHouse();
        p.house(7, 5);
        p.thing(true);
        p.thing(false);
        p.fill(0, 0, 0, 1, 1);
        p.draft(4);
        is("W", p.many(0), 7);
        is("H", p.many(1), 5);
        is("THINGS", p.many(2), 2);
        is("what can be undone", p.many(3), 3);
        is("STEPS in THE DRAFT", p.many(4), 1);
        for (int wrong : new int[] {-1, 5, LEAST, MOST}) is("many " + wrong, p.many(wrong), BAD);
    }

    private static void findings() { // 37, 38
        PianoHouse p = Built.withLoad(2, 2, 1);
        is("before any", p.finding(), 0);
        p.rows(-5);
        is("SIZE", p.finding(), 4);
        p.rows(1);
        is("the latest, though another call stood", p.finding(), 4);
        p.tear(0);
        is("NOTHING", p.finding(), 1);
        p.tear(1);
        is("BEYOND", p.finding(), 2);
        p.row(0, 1);
        p.steps(0, 0, 0, 4);
        is("UNLIKE", p.finding(), 3);
        p.steps(0, 0, 0, 4);
        p.house(9, 9);
        p.house(0, 0);
        is("the latest, behind BAD", p.finding(), 3);
        for (int f = 1; f <= 4; f++) is("findings " + f, p.findings(f), f == 3 ? 2 : 1);
        for (int wrong : new int[] {-1, 0, 5, LEAST, MOST}) is("findings " + wrong, p.findings(wrong), BAD);
    }

    private static void digest() { // 39
        PianoHouse p = new PianoHouse();
        p.house(2, 2);
        p.thing(true);
        p.fill(0, 0, 0, 2, 1);
        p.thing(false);
        p.fill(1, 1, 0, 1, 2);
        p.rows(3);
        p.row(0, 5);
        p.row(1, 0);
        p.hold(4, 6);
        p.end(false, 2, 1, 3);
        p.end(true, 0, 2, 1);
        is("digest", p.digest(), Built.digestOf(2, 2, 0, 0, NONE, 1, 1, 0, 0, 0, 5, 0, NONE, 4, 6, 2, 1, 3, 0, 2, 1));
        p.out(0, true);
        is("digest with the door out", p.digest(),
            Built.digestOf(2, 2, NONE, 1, NONE, 1, 1, 1, 0, 0, 5, 0, NONE, 4, 6, 2, 1, 3, 0, 2, 1));
        p.house(3, 1);
        p.rows(0);
        is("digest of W and H, by y, then x", p.digest(), Built.digestOf(3, 1, NONE, NONE, NONE, 4, 6, 0, 0, 0, 0, 0, 0));
    }
}
