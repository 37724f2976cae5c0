/**
 * Each refused call: its answer, its finding, and that it changes nothing but finding() and
 * findings(). Two houses are built alike; one of them is asked the call, and then all that the two
 * tell must be the same, also what can only be told by using it up: the draft, what can be undone
 * and each square of each thing.
 */
public final class RefusedCallsTest {
    private static final int BAD = -1, FULL = -2, FINDING = -3, STATE = -4, NONE = -9;
    private static final int NOTHING = 1, BEYOND = 2, UNLIKE = 3, SIZE = 4;
    private static final int LEAST = Integer.MIN_VALUE, MOST = Integer.MAX_VALUE;
    private static final Due DUE = new Due("RefusedCallsTest");

    /** How a house is built; each time the same. */
    private interface Plan {
        PianoHouse build();
    }

    private interface Call {
        int of(PianoHouse p);
    }

    public static void main(String[] args) {
        everyPlanTellsItself();
        houseAndThings();
        fullOfThings();
        nothingToUndo();
        squares();
        rows();
        copies();
        holdAndLoad();
        places();
        placesUnlike();
        waysAndEnds();
        drafts();
        whatIsTold();
        notWhole();
        notWholeButBad();
        checkNotWhole();
        asking();
        DUE.end();
    }

    // ---- the plans

    /** A house of 5 by 4 with a wall, a door that is out and a door that is not; a way, a draft, findings. */
    private static PianoHouse furnished() {
        PianoHouse p = new PianoHouse();
        p.house(5, 4);
        Built.wall(p, false, 2, 0, 1, 4);
        Built.wall(p, true, 1, 3, 3, 1);
        Built.wall(p, true, 4, 0, 1, 2);
        p.clear(0, 2, 2);
        p.out(1, true);
        Built.tellLoad(p, 0, 0, 1, 1, 0);
        p.tear(2);
        p.end(false, 0, 0, 0);
        p.end(true, 4, 2, 0);
        p.rows(-1);
        p.told(2);
        p.told(3);
        p.steps(0, 0, 0, 4);
        p.clear(0, 2, 3);
        p.way();
        Built.drafted(p, "220000");
        return p;
    }

    /** The same, and the first row lacks: not whole. */
    private static PianoHouse torn() {
        PianoHouse p = furnished();
        p.tear(0);
        return p;
    }

    /** Other ends than those of the latest way. */
    private static PianoHouse moved() {
        PianoHouse p = furnished();
        Built.ends(p, 0, 2, 0, 1);
        return p;
    }

    /** The latest way was none; now there is one. */
    private static PianoHouse wayless() {
        PianoHouse p = furnished();
        p.end(true, 4, 0, 0);
        p.way();
        p.end(true, 4, 2, 0);
        return p;
    }

    /** Twelve things, six of them doors. */
    private static PianoHouse crowded() {
        PianoHouse p = new PianoHouse();
        p.house(3, 2);
        for (int t = 0; t < 12; t++) p.thing(t % 2 == 0);
        for (int t = 0; t < 12; t++) p.fill(t, t % 3, t % 2, 1, 1);
        p.out(0, true);
        return p;
    }

    /** Seven things, six of them doors. */
    private static PianoHouse doored() {
        PianoHouse p = new PianoHouse();
        p.house(3, 2);
        for (int t = 0; t < 7; t++) Built.wall(p, t != 3, t % 3, t % 2, 1, 1);
        return p;
    }

    private static PianoHouse untouched() {
        return new PianoHouse();
    }

    /** All that was done was undone. */
    private static PianoHouse undone() {
        PianoHouse p = furnished();
        for (int i = 0; i < 20; i++) p.undo();
        return p;
    }

    private static PianoHouse housedAnew() {
        PianoHouse p = furnished();
        p.house(5, 4);
        return p;
    }

    private static PianoHouse withFullDraft() {
        PianoHouse p = Built.withLoad(2, 1, 1);
        for (int i = 0; i < 200; i++) p.draft(i % 2);
        return p;
    }

    private static PianoHouse withSixRows() {
        PianoHouse p = furnished();
        Built.tellLoad(p, 2, 1, 1, 3, 0, 1, 1, 63);
        p.tear(1);
        return p;
    }

    /** What the tests lean on: the plans are as their names say. */
    private static void everyPlanTellsItself() {
        DUE.is("furnished: way", furnished().count(0), 0);
        DUE.is("furnished: to undo", furnished().many(3), 9);
        DUE.is("furnished: whole", furnished().load(1), 1);
        DUE.is("furnished: draft", furnished().check(), 1);
        DUE.is("torn: not whole", torn().load(1), 0);
        DUE.is("torn: a way of before", torn().step(0), 2);
        DUE.is("moved: a way of before", moved().step(5), 0);
        DUE.is("moved: another way", moved().way(), 1);
        DUE.is("wayless: none before", wayless().count(0), NONE);
        DUE.is("wayless: a way", wayless().way(), 6);
        DUE.is("crowded: things", crowded().many(2), 12);
        DUE.is("crowded: to undo", crowded().many(3), 20);
        DUE.is("doored: things", doored().many(2), 7);
        DUE.is("undone: things", undone().many(2), 0);
        DUE.is("full draft", withFullDraft().many(4), 200);
        DUE.is("full draft: a way", withFullDraft().check(), 1);
        DUE.is("six rows", withSixRows().load(3), 6);
    }

    // ---- what a house tells

    private static void tell(StringBuilder text, String what, long value) {
        text.append(what).append(' ').append(value).append("; ");
    }

    /** What a house tells without being changed, but for findings. */
    private static String plainly(PianoHouse p) {
        StringBuilder text = new StringBuilder();
        for (int what = 0; what < 5; what++) tell(text, "many " + what, p.many(what));
        for (int what = 0; what < 4; what++) tell(text, "load " + what, p.load(what));
        tell(text, "digest", p.digest());
        for (int what = 0; what < 2; what++) tell(text, "count " + what, p.count(what));
        for (int i = -1; i < 12; i++) tell(text, "step " + i, p.step(i));
        for (int q = 0; q < 4; q++) tell(text, "pieces " + q, p.pieces(q));
        tell(text, "reached", p.reached());
        tell(text, "held", p.held());
        tell(text, "doors", p.doors());
        tell(text, "narrow", p.narrow(9));
        tell(text, "digest", p.digest());
        return text.toString();
    }

    private static String findings(PianoHouse p) {
        StringBuilder text = new StringBuilder();
        tell(text, "latest", p.finding());
        for (int f = 1; f <= 4; f++) tell(text, "finding " + f, p.findings(f));
        return text.toString();
    }

    /** The draft and all houses that were before: the house is used up by it. */
    private static String used(PianoHouse p) {
        StringBuilder text = new StringBuilder();
        tell(text, "check", p.check());
        for (int i = 0; i <= 20; i++) {
            tell(text, "undo", p.undo());
            tell(text, "digest", p.digest());
        }
        tell(text, "next thing", p.thing(true));
        tell(text, "next thing", p.thing(false));
        return text.toString();
    }

    /** Each square of each thing, and whether doors are out: the house is used up by it. */
    private static String squaresOf(PianoHouse p) {
        StringBuilder text = new StringBuilder();
        for (int t = 0; t < p.many(2); t++) {
            tell(text, "out " + t, p.out(t, false));
            for (int y = 0; y < p.many(1); y++) {
                for (int x = 0; x < p.many(0); x++) tell(text, "clear", p.clear(t, x, y));
            }
        }
        return text.toString();
    }

    // ---- asking

    private static void refused(String name, Plan plan, Call call, int answer) {
        PianoHouse asked = plan.build(), alike = plan.build();
        DUE.is(name, call.of(asked), answer);
        DUE.same(name + ": findings", findings(asked), findings(alike));
        unchanged(name, plan, call, asked, alike);
    }

    private static void found(String name, Plan plan, Call call, int finding) {
        PianoHouse asked = plan.build(), alike = plan.build();
        DUE.is(name, call.of(asked), FINDING);
        DUE.is(name + ": finding()", asked.finding(), finding);
        for (int f = 1; f <= 4; f++) {
            DUE.is(name + ": findings(" + f + ")", asked.findings(f), alike.findings(f) + (f == finding ? 1 : 0));
        }
        unchanged(name, plan, call, asked, alike);
    }

    private static void unchanged(String name, Plan plan, Call call, PianoHouse asked, PianoHouse alike) {
        DUE.same(name + ": the rest", plainly(asked), plainly(alike));
        DUE.same(name + ": used up", used(asked), used(alike));
        PianoHouse again = plan.build();
        call.of(again);
        DUE.same(name + ": squares", squaresOf(again), squaresOf(plan.build()));
    }

    private static void bad(String name, Call call) {
        refused(name, RefusedCallsTest::furnished, call, BAD);
    }

    private static int[] around(int least, int most) {
        return new int[] {LEAST, least - 1, most + 1, MOST};
    }

    // ---- 1 the house, the load

    private static void houseAndThings() {
        for (int n : around(1, 20)) {
            bad("house(" + n + ", 3)", p -> p.house(n, 3));
            bad("house(3, " + n + ")", p -> p.house(3, n));
            bad("fill w " + n, p -> p.fill(0, 0, 0, n, 1));
            bad("fill h " + n, p -> p.fill(0, 0, 0, 1, n));
        }
        for (int t : around(0, 2)) {
            bad("fill thing " + t, p -> p.fill(t, 0, 0, 2, 2));
            bad("clear thing " + t, p -> p.clear(t, 2, 0));
            bad("out " + t, p -> p.out(t, true));
            bad("in " + t, p -> p.out(t, false));
        }
        for (int x : around(0, 4)) {
            bad("fill x " + x, p -> p.fill(0, x, 0, 2, 2));
            bad("clear x " + x, p -> p.clear(0, x, 0));
        }
        for (int y : around(0, 3)) {
            bad("fill y " + y, p -> p.fill(0, 0, y, 2, 2));
            bad("clear y " + y, p -> p.clear(0, 2, y));
        }
        refused("out of no door", RefusedCallsTest::furnished, p -> p.out(0, true), STATE);
        refused("in of no door", RefusedCallsTest::furnished, p -> p.out(0, false), STATE);
    }

    private static void fullOfThings() {
        refused("a thirteenth thing", RefusedCallsTest::crowded, p -> p.thing(false), FULL);
        refused("a thirteenth thing, a seventh door", RefusedCallsTest::crowded, p -> p.thing(true), FULL);
        refused("a seventh door", RefusedCallsTest::doored, p -> p.thing(true), FULL);
        refused("fill of a thirteenth", RefusedCallsTest::crowded, p -> p.fill(12, 0, 0, 1, 1), BAD);
        refused("clear of a thirteenth", RefusedCallsTest::crowded, p -> p.clear(12, 0, 0), BAD);
        refused("out of a thirteenth", RefusedCallsTest::crowded, p -> p.out(12, true), BAD);
        refused("out of the last, no door", RefusedCallsTest::crowded, p -> p.out(11, true), STATE);
    }

    private static void nothingToUndo() {
        refused("undo of a new house", RefusedCallsTest::untouched, p -> p.undo(), STATE);
        refused("undo when all is undone", RefusedCallsTest::undone, p -> p.undo(), STATE);
        refused("undo behind house", RefusedCallsTest::housedAnew, p -> p.undo(), STATE);
    }

    private static void squares() {
        for (int x : around(0, 4)) {
            bad("open x " + x, p -> p.open(x, 0));
            bad("on x " + x, p -> p.on(x, 0));
        }
        for (int y : around(0, 3)) {
            bad("open y " + y, p -> p.open(0, y));
            bad("on y " + y, p -> p.on(0, y));
        }
    }

    private static void rows() {
        for (int n : new int[] {7, 8, MOST}) bad("rows(" + n + ")", p -> p.rows(n));
        for (int n : new int[] {-1, -9, LEAST}) found("rows(" + n + ")", RefusedCallsTest::furnished, p -> p.rows(n), SIZE);
        for (int bits : around(0, 63)) {
            bad("row(0, " + bits + ")", p -> p.row(0, bits));
            bad("row(3, " + bits + ")", p -> p.row(3, bits));
        }
        for (int j : around(0, 2)) {
            found("row(" + j + ")", RefusedCallsTest::furnished, p -> p.row(j, 1), BEYOND);
            found("tear(" + j + ")", RefusedCallsTest::furnished, p -> p.tear(j), BEYOND);
            found("told(" + j + ")", RefusedCallsTest::furnished, p -> p.told(j), BEYOND);
        }
        for (int j : around(0, 5)) {
            found("row(" + j + ") of six", RefusedCallsTest::withSixRows, p -> p.row(j, 1), BEYOND);
            found("tear(" + j + ") of six", RefusedCallsTest::withSixRows, p -> p.tear(j), BEYOND);
            found("told(" + j + ") of six", RefusedCallsTest::withSixRows, p -> p.told(j), BEYOND);
        }
        found("row(0) of none", RefusedCallsTest::untouched, p -> p.row(0, 1), BEYOND);
        found("tear(0) of none", RefusedCallsTest::untouched, p -> p.tear(0), BEYOND);
        found("told(0) of none", RefusedCallsTest::untouched, p -> p.told(0), BEYOND);
        found("tear(2), which is missing", RefusedCallsTest::furnished, p -> p.tear(2), NOTHING);
        found("told(2), which is missing", RefusedCallsTest::furnished, p -> p.told(2), NOTHING);
    }

    private static void copies() {
        int[][] wrong = {{-1, 0, 1}, {0, -1, 1}, {0, 0, -1}, {0, 0, 7}, {0, 1, 6}, {1, 0, 6}, {4, 0, 3}, {0, 4, 3}, {6, 0, 1},
            {0, 6, 1}, {7, 0, 0}, {0, 7, 0}, {2, 5, 2}, {5, 2, 2}, {LEAST, 0, 1}, {0, LEAST, 1}, {0, 2, LEAST}, {MOST, 0, 1},
            {0, MOST, 1}, {0, 2, MOST}};
        for (int[] w : wrong) {
            String name = "copy(" + w[0] + ", " + w[1] + ", " + w[2] + ")";
            found(name, RefusedCallsTest::withSixRows, p -> p.copy(w[0], w[1], w[2]), BEYOND);
        }
        found("copy(0, 1, 3) of three", RefusedCallsTest::furnished, p -> p.copy(0, 1, 3), BEYOND);
        found("copy(0, 0, 1) of none", RefusedCallsTest::untouched, p -> p.copy(0, 0, 1), BEYOND);
    }

    private static void holdAndLoad() {
        for (int n : around(0, 6)) {
            bad("hold(" + n + ", 1)", p -> p.hold(n, 1));
            bad("hold(1, " + n + ")", p -> p.hold(1, n));
        }
        for (int what : around(0, 3)) bad("load(" + what + ")", p -> p.load(what));
    }

    // ---- 2 places

    private static void places() {
        for (int x : around(0, 5)) badPlace("x " + x, x, 0, 0);
        for (int y : around(0, 4)) badPlace("y " + y, 0, y, 0);
        for (int q : around(0, 3)) {
            badPlace("q " + q, 0, 0, q);
            bad("pieces(" + q + ")", p -> p.pieces(q));
            bad("area q " + q, p -> p.area(q, 0, 0));
        }
        for (int x : around(0, 5)) bad("turning x " + x, p -> p.turning(x, 0));
        for (int y : around(0, 4)) bad("turning y " + y, p -> p.turning(0, y));
        for (int kind : around(0, 4)) bad("steps kind " + kind, p -> p.steps(0, 0, 0, kind));
        for (int piece : around(0, furnished().pieces(0) - 1)) bad("area piece " + piece, p -> p.area(0, piece, 0));
        for (int what : around(0, 2)) bad("area what " + what, p -> p.area(0, 0, what));
        for (int step : around(0, 3)) bad("slide step " + step, p -> p.slide(0, 0, 0, step));
    }

    private static void badPlace(String name, int x, int y, int q) {
        bad("free " + name, p -> p.free(x, y, q));
        bad("kind " + name, p -> p.kind(x, y, q));
        bad("steps " + name, p -> p.steps(x, y, q, 0));
        bad("piece " + name, p -> p.piece(x, y, q));
        bad("slide " + name, p -> p.slide(x, y, q, 0));
        bad("reaches " + name, p -> p.reaches(x, y, q));
        bad("end, beginning " + name, p -> p.end(false, x, y, q));
        bad("end, goal " + name, p -> p.end(true, x, y, q));
    }

    private static void placesUnlike() {
        for (int kind = 2; kind < 5; kind++) {
            int k = kind;
            found("steps of FREE as " + k, RefusedCallsTest::furnished, p -> p.steps(0, 0, 0, k), UNLIKE);
        }
        found("steps of a PLACE as FREE", RefusedCallsTest::furnished, p -> p.steps(0, 0, 1, 1), UNLIKE);
        found("steps of a PLACE as SHUT", RefusedCallsTest::furnished, p -> p.steps(0, 0, 1, 4), UNLIKE);
    }

    // ---- 3 ways

    private static void waysAndEnds() {
        for (int what : around(0, 1)) bad("count(" + what + ")", p -> p.count(what));
        for (int most : around(0, 9)) bad("narrow(" + most + ")", p -> p.narrow(most));
    }

    private static void drafts() {
        for (int step : around(0, 5)) {
            bad("draft(" + step + ")", p -> p.draft(step));
            refused("draft(" + step + ") when full", RefusedCallsTest::withFullDraft, p -> p.draft(step), BAD);
        }
        for (int i = 0; i < 6; i++) {
            int step = i;
            refused("draft(" + step + ") when full", RefusedCallsTest::withFullDraft, p -> p.draft(step), FULL);
        }
    }

    private static void whatIsTold() {
        for (int what : around(0, 4)) bad("many(" + what + ")", p -> p.many(what));
        for (int f : around(1, 4)) bad("findings(" + f + ")", p -> p.findings(f));
    }

    // ---- the load is not whole

    private static void state(String name, Call call) {
        refused(name + ", torn", RefusedCallsTest::torn, call, STATE);
        refused(name + ", no load", RefusedCallsTest::untouched, call, STATE);
    }

    private static void notWhole() {
        state("free", p -> p.free(0, 0, 0));
        state("turning", p -> p.turning(1, 1));
        state("kind", p -> p.kind(1, 1, 3));
        for (int kind = 0; kind < 5; kind++) {
            int k = kind;
            state("steps " + k, p -> p.steps(0, 0, 0, k));
        }
        state("pieces", p -> p.pieces(3));
        state("piece", p -> p.piece(1, 1, 3));
        state("area", p -> p.area(0, 0, 0));
        state("slide", p -> p.slide(1, 1, 3, 3));
        state("way", p -> p.way());
        state("reached", p -> p.reached());
        state("reaches", p -> p.reaches(1, 1, 3));
        state("held", p -> p.held());
        state("doors", p -> p.doors());
        state("narrow", p -> p.narrow(9));
        state("narrow", p -> p.narrow(0));
    }

    private static void tornBad(String name, Call call) {
        refused(name + ", torn", RefusedCallsTest::torn, call, BAD);
    }

    private static void notWholeButBad() {
        tornBad("free", p -> p.free(6, 0, 0));
        tornBad("turning", p -> p.turning(0, 5));
        tornBad("kind", p -> p.kind(0, 0, 4));
        tornBad("steps, the place", p -> p.steps(0, 5, 0, 0));
        tornBad("steps, the kind", p -> p.steps(0, 0, 0, 5));
        tornBad("pieces", p -> p.pieces(-1));
        tornBad("piece", p -> p.piece(-1, 0, 0));
        tornBad("area, the position", p -> p.area(4, 0, 0));
        tornBad("area, the piece", p -> p.area(0, -1, 0));
        tornBad("area, what", p -> p.area(0, 0, 3));
        tornBad("slide, the place", p -> p.slide(0, 0, -1, 0));
        tornBad("slide, the step", p -> p.slide(0, 0, 0, 4));
        tornBad("end", p -> p.end(true, 0, 0, 4));
        tornBad("count", p -> p.count(2));
        tornBad("reaches", p -> p.reaches(0, 0, 4));
        tornBad("narrow", p -> p.narrow(10));
        tornBad("draft", p -> p.draft(6));
    }

    /** check() empties the draft also when it is refused: else nothing changes. */
    private static void checkNotWhole() {
        Plan emptied = () -> {
            PianoHouse p = furnished();
            p.check();
            p.tear(0);
            return p;
        };
        PianoHouse asked = torn(), alike = emptied.build();
        DUE.is("check", asked.check(), STATE);
        DUE.is("check: empty", asked.many(4), 0);
        DUE.same("check: findings", findings(asked), findings(alike));
        DUE.same("check: the rest", plainly(asked), plainly(alike));
        DUE.same("check: used up", used(asked), used(alike));
        refused("check of no draft", emptied, p -> p.check(), STATE);
    }

    // ---- what is asked and answered changes nothing, either

    private static void asked(String name, Call call) {
        refused(name + " asks", RefusedCallsTest::furnished, call, call.of(furnished()));
        refused(name + " asks, torn", RefusedCallsTest::torn, call, call.of(torn()));
        refused(name + " asks, moved", RefusedCallsTest::moved, call, call.of(moved()));
        refused(name + " asks, wayless", RefusedCallsTest::wayless, call, call.of(wayless()));
    }

    private static void asking() {
        asked("open", p -> p.open(2, 0));
        asked("on", p -> p.on(2, 0));
        asked("told", p -> p.told(1));
        asked("load", p -> p.load(0));
        asked("free", p -> p.free(0, 0, 0));
        asked("turning", p -> p.turning(2, 2));
        asked("kind", p -> p.kind(0, 0, 0));
        asked("steps", p -> p.steps(0, 0, 0, 0));
        asked("pieces", p -> p.pieces(1));
        asked("piece", p -> p.piece(5, 4, 2));
        asked("area", p -> p.area(0, 0, 2));
        asked("slide", p -> p.slide(0, 0, 0, 0));
        asked("step", p -> p.step(NONE));
        asked("step", p -> p.step(0));
        asked("count", p -> p.count(1));
        asked("reached", p -> p.reached());
        asked("reaches", p -> p.reaches(5, 4, 2));
        asked("held", p -> p.held());
        asked("doors", p -> p.doors());
        asked("narrow", p -> p.narrow(9));
        asked("many", p -> p.many(4));
        asked("finding", p -> p.finding());
        asked("findings", p -> p.findings(SIZE));
        asked("digest", p -> (int) p.digest());
    }
}
