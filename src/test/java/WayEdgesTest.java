/**
 * Promises 25 to 39, ways and what is told: of each sentence of the document that names an edge the
 * last value that is taken and the first that is not, on each side; what is empty and what is full.
 */
public final class WayEdgesTest {
    private static final int BAD = -1, FULL = -2, FINDING = -3, STATE = -4, NONE = -9;
    private static final int NOTHING = 1, BEYOND = 2, UNLIKE = 3, SIZE = 4;
    private static final int LEAST = Integer.MIN_VALUE, MOST = Integer.MAX_VALUE;
    private static final Due DUE = new Due("WayEdgesTest");

    public static void main(String[] args) {
        endOfFirstAndLastPlace();
        endNeedsNoLoad();
        onlyWhole();
        wayOfNoSteps();
        wayNotFree();
        wayShut();
        wayOverTheLargestHouse();
        wayLongerThanADraft();
        wayOfFewestTurnsFirst();
        wayTurnsOnFromTheLastPosition();
        wayOfTheLeastLastStep();
        wayIsNoOtherOfAsManySteps();
        wayTurnsWhereItIsShortest();
        stepOfTheLatestWay();
        stepStaysThroughOtherCalls();
        stepOfFirstAndLast();
        countOfTurnsAndSlides();
        countWithoutWay();
        reachedFromNoneToAll();
        reachesWhatAWayLeadsTo();
        reachesAlongAndUpApart();
        heldByNoneToAll();
        heldByOneMoreStep();
        heldByWhatATurnNeeds();
        heldByEachSquareOfATurn();
        heldAlongAndUpApart();
        heldWithoutBeginningOrWithWay();
        doorsFromNoneToSix();
        doorsNotWithAll();
        doorsAsFewAsCanBe();
        doorsOfTheLeastBits();
        doorsOnTheEnds();
        narrowByTheSize();
        narrowOfAtMost();
        narrowByCorners();
        narrowAboutDoors();
        narrowNotWithNone();
        draftOfSixSteps();
        draftOfTwoHundred();
        checkOfNoSteps();
        checkOfTheFirstWrongStep();
        checkOfAFullDraft();
        checkEndsElsewhere();
        checkTurnsOnFromTheLastPosition();
        checkEmptiesTheDraft();
        manyFromNoneToAll();
        findingsOfEach();
        orderOfRefusals();
        digestOfEdges();
        DUE.end();
    }

    private static void is(String call, long got, long want) {
        DUE.is(call, got, want);
    }

    private static void isWay(String call, PianoHouse p, String want) {
        DUE.same(call, Built.wayText(p), want);
    }

    // ---- 25

    private static void endOfFirstAndLastPlace() { // "The BEGINNING (goal: the GOAL) is (x, y, q): 1. BAD."
        for (int[] size : new int[][] {{1, 1}, {20, 20}, {20, 1}, {1, 20}}) {
            int w = size[0], h = size[1];
            PianoHouse p = new PianoHouse();
            p.house(w, h);
            long start = p.digest();
            for (boolean goal : new boolean[] {false, true}) {
                for (int wrong : new int[] {LEAST, -1, w + 1, MOST}) is("x " + wrong, p.end(goal, wrong, 0, 0), BAD);
                for (int wrong : new int[] {LEAST, -1, h + 1, MOST}) is("y " + wrong, p.end(goal, 0, wrong, 0), BAD);
                for (int wrong : new int[] {LEAST, -1, 4, MOST}) is("q " + wrong, p.end(goal, 0, 0, wrong), BAD);
            }
            is("digest behind BAD", p.digest(), start);
            is("the last place begins", p.end(false, w, h, 3), 1);
            is("digest with the beginning", p.digest(), endsDigest(w, h, w, h, 3, 0, 0, 0));
            is("the last place is the goal", p.end(true, w, h, 3), 1);
            is("digest with both", p.digest(), endsDigest(w, h, w, h, 3, w, h, 3));
            is("the first place begins", p.end(false, 0, 0, 0), 1);
            is("digest with the goal", p.digest(), endsDigest(w, h, 0, 0, 0, w, h, 3));
            is("the first place is the goal", p.end(true, 0, 0, 0), 1);
            is("digest as at first", p.digest(), start);
        }
    }

    private static long endsDigest(int w, int h, int... ends) {
        int[] all = new int[2 + w * h + 2 + 6];
        all[0] = w;
        all[1] = h;
        for (int i = 0; i < w * h; i++) all[2 + i] = NONE;
        System.arraycopy(ends, 0, all, 4 + w * h, 6);
        return Built.digestOf(all);
    }

    private static void endNeedsNoLoad() {
        PianoHouse p = new PianoHouse();
        is("without a load", p.end(true, 1, 1, 2), 1);
        p.rows(1);
        p.row(0, 1);
        is("where it is free", p.end(true, 1, 1, 2), 1);
        is("where it is not free", p.end(true, 1, 1, 0), 1);
        Built.wall(p, false, 0, 0, 1, 1);
        is("on a thing", p.end(false, 0, 0, 0), 1);
    }

    // ---- the load is not whole

    private static void onlyWhole() { // "STATE: THE LOAD is not WHOLE; of all calls from here on to check(), BAD ahead of it"
        PianoHouse p = new PianoHouse();
        p.house(2, 2);
        isNotWhole("no rows", p);
        p.rows(2);
        p.row(1, 4);
        isNotWhole("the first lacks", p);
        p.row(0, 0);
        is("whole, and beyond the house", p.way(), NONE);
        p.row(1, 0);
        isNotWhole("no square", p);
        p.tear(1);
        p.row(0, 2);
        is("whole, the last lacks", p.way(), 0);
    }

    private static void isNotWhole(String when, PianoHouse p) {
        is(when + ": way", p.way(), STATE);
        is(when + ": reached", p.reached(), STATE);
        is(when + ": reaches", p.reaches(2, 2, 3), STATE);
        is(when + ": reaches, BAD", p.reaches(2, 3, 3), BAD);
        is(when + ": reaches, BAD", p.reaches(2, 2, 4), BAD);
        is(when + ": held", p.held(), STATE);
        is(when + ": doors", p.doors(), STATE);
        is(when + ": narrow", p.narrow(9), STATE);
        is(when + ": narrow, BAD", p.narrow(10), BAD);
        is(when + ": narrow, BAD", p.narrow(-1), BAD);
        is(when + ": draft is taken", p.draft(0), 1);
        is(when + ": check", p.check(), STATE);
        is(when + ": step", p.step(0), NONE);
        is(when + ": count", p.count(0), NONE);
        is(when + ": count, BAD", p.count(2), BAD);
        is(when + ": end is taken", p.end(false, 0, 0, 0), 1);
    }

    // ---- 26

    private static void wayOfNoSteps() { // "How many STEPS THE WAY has"
        PianoHouse p = Built.withLoad(1, 1, 1);
        is("from a place to itself", p.way(), 0);
        is("no step", p.step(0), NONE);
        is("no turns", p.count(0), 0);
        is("no slides", p.count(1), 0);
        p.end(false, 1, 1, 2);
        p.end(true, 1, 1, 2);
        is("at the last place", p.way(), 0);
    }

    private static void wayNotFree() { // "NONE: there is none (or the BEGINNING, the GOAL is not FREE)"
        PianoHouse p = Built.withLoad(3, 1, 1);
        Built.ends(p, 0, 0, 3, 0);
        is("the goal is not free", p.way(), NONE);
        Built.ends(p, 3, 0, 0, 0);
        is("the beginning is not free", p.way(), NONE);
        Built.ends(p, 3, 0, 3, 0);
        is("both are not free, and are one", p.way(), NONE);
        Built.ends(p, 0, 0, 2, 0);
        is("both are free", p.way(), 2);
        Built.wall(p, true, 2, 0, 1, 1);
        is("a door on the goal", p.way(), NONE);
        p.out(0, true);
        is("it is out", p.way(), 2);
    }

    private static void wayShut() { // "NONE: there is none"
        PianoHouse p = Built.withLoad(3, 3, 1);
        Built.ends(p, 0, 0, 2, 2);
        Built.wall(p, false, 0, 1, 3, 1);
        is("a wall all along", p.way(), NONE);
        p.clear(0, 2, 1);
        is("one square of it open", p.way(), 4);
        p.end(true, 0, 1, 2);
        is("another position, and no turn", p.way(), NONE);
    }

    private static void wayOverTheLargestHouse() {
        PianoHouse p = Built.withLoad(20, 20, 1);
        Built.ends(p, 0, 0, 19, 19);
        is("from corner to corner", p.way(), 38);
        is("first up", p.step(18), 2);
        is("then along", p.step(19), 0);
        is("slides", p.count(1), 2);
        Built.ends(p, 19, 19, 0, 0);
        is("back", p.way(), 38);
        is("first down", p.step(18), 3);
        is("then to the left", p.step(19), 1);
        p.end(false, 1, 1, 2);
        p.end(true, 20, 20, 2);
        is("to the last place", p.way(), 38);
        is("no turns", p.count(0), 0);
    }

    /** One way to and fro through a house of 20 by 20: ten rows, nine gaps at the ends. */
    private static PianoHouse windings() {
        PianoHouse p = Built.withLoad(20, 20, 1);
        p.thing(false);
        for (int i = 0; i < 9; i++) p.fill(0, i % 2, 2 * i + 1, 19, 1);
        for (int i = 0; i < 9; i++) p.clear(0, i % 2 == 0 ? 19 : 0, 2 * i + 1);
        for (int i = 0; i < 9; i++) p.fill(0, i % 2 == 0 ? 0 : 19, 2 * i + 1, 1, 1);
        p.fill(0, 0, 19, 20, 1);
        Built.ends(p, 0, 0, 0, 18);
        return p;
    }

    private static void wayLongerThanADraft() { // "STEP i of THE WAY"; "NONE: none such"
        PianoHouse p = windings();
        is("way", p.way(), 208);
        for (int i = 0; i < 208; i++) {
            int in = i % 21, due = in == 19 || in == 20 ? 2 : i / 21 % 2;
            is("step " + i, p.step(i), due);
        }
        is("one behind the last", p.step(208), NONE);
        is("slides", p.count(1), 19);
        is("turns", p.count(0), 0);
        is("reached", p.reached(), 209);
    }

    private static void wayOfFewestTurnsFirst() { // "the fewest STEPS 4 and 5, of these fewest STEPS"
        PianoHouse p = Built.withLoad(20, 15, 3);
        Built.wall(p, false, 0, 7, 18, 1);
        p.clear(0, 3, 7);
        Built.ends(p, 4, 4, 4, 11);
        is("without turns it is longer", p.way(), 35);
        is("no turns", p.count(0), 0);
        is("slides: two up, along, five up, back", p.count(1), 4);
        p.fill(0, 18, 7, 1, 1);
        isWay("with turns, where it cannot be without", p, "422222225");
        is("turns", p.count(0), 2);
        is("slides", p.count(1), 1);
        p.fill(0, 3, 7, 1, 1);
        is("with turns, to a gap that is farther", p.way(), 39);
        p.fill(0, 19, 7, 1, 1);
        is("none", p.way(), NONE);
    }

    private static void wayTurnsOnFromTheLastPosition() { // "4 turned to q + 1, 5 to q - 1 (modulo 4 ..)"
        PianoHouse p = Built.withLoad(4, 4, 1);
        for (int from = 0; from < 4; from++) {
            for (int to = 0; to < 4; to++) {
                p.end(false, 2, 2, from);
                p.end(true, 2, 2, to);
                isWay("from " + from + " to " + to, p, new String[] {"", "4", "44", "5"}[(to + 4 - from) % 4]);
            }
        }
    }

    private static void wayOfTheLeastLastStep() { // "the one whose last STEP is the least, then the last but one"
        PianoHouse p = Built.withLoad(8, 8, 1);
        Built.ends(p, 3, 3, 5, 5);
        isWay("0 ahead of 2", p, "2200");
        Built.ends(p, 3, 3, 5, 1);
        isWay("0 ahead of 3", p, "3300");
        Built.ends(p, 3, 3, 1, 5);
        isWay("1 ahead of 2", p, "2211");
        Built.ends(p, 3, 3, 1, 1);
        isWay("1 ahead of 3", p, "3311");
        p.end(true, 5, 3, 1);
        isWay("0 ahead of 4", p, "400");
        p.end(true, 1, 3, 3);
        isWay("to where no turn may be: 1 ahead of 5", p, "511");
        p.end(true, 3, 5, 3);
        isWay("2 ahead of 5", p, "522");
        p.end(true, 3, 5, 2);
        isWay("4 ahead of 5, 2 ahead of both", p, "4422");
        Built.wall(p, false, 4, 3, 1, 1);
        Built.ends(p, 3, 3, 5, 3);
        isWay("round a square: 2 ahead of 3 at the end", p, "3002");
    }

    /**
     * Two rooms in which a load of two squares may be turned in the middle alone, and a hole in the
     * wall between them through which it comes lying: in position 0 by a step down and up again, in
     * position 2 straight on, which saves as many steps as it needs turns.
     */
    private static void wayIsNoOtherOfAsManySteps() { // "the fewest STEPS 4 and 5, of these fewest STEPS"
        PianoHouse p = Built.withLoad(13, 6, 3);
        int wall = p.thing(false);
        for (int x : new int[] {0, 4, 7, 11}) {
            p.fill(wall, x, 0, 2, 1);
            p.fill(wall, x, 5, 2, 1);
        }
        for (int x : new int[] {0, 5, 7, 12}) {
            p.fill(wall, x, 0, 1, 2);
            p.fill(wall, x, 4, 1, 2);
        }
        p.fill(wall, 6, 0, 1, 6);
        is("the hole", p.clear(wall, 6, 2), 1);
        is("may be turned in the first room", p.turning(3, 3), 1);
        is("may be turned in the second room", p.turning(10, 3), 1);
        Built.ends(p, 3, 3, 10, 3);
        isWay("no turn, nine steps", p, "300002000");
        p.end(true, 10, 3, 2);
        isWay("two turns, nine steps", p, "440000000");
        p.end(true, 10, 3, 3);
        isWay("one turn: from the way without one, not from the other, which 4 would lead on", p, "3000020005");
        is("one turn", p.count(0), 1);
    }

    /** A wall with a low hole that a load of two squares passes lying, and a high one, farther, also upright. */
    private static void wayTurnsWhereItIsShortest() { // "of these fewest STEPS"
        PianoHouse p = Built.withLoad(13, 9, 3);
        int wall = Built.wall(p, false, 6, 0, 1, 7);
        p.clear(wall, 6, 2);
        p.end(false, 3, 3, 0);
        p.end(true, 10, 3, 1);
        isWay("lying through the low hole, turned behind it", p, "3000020004");
        p.fill(wall, 6, 2, 1, 1);
        is("round by the high hole", p.way(), 16);
        is("turned once, too", p.count(0), 1);
        p.end(false, 10, 3, 1);
        p.end(true, 3, 3, 0);
        p.clear(wall, 6, 2);
        isWay("turned ahead of the low hole", p, "5311111121");
    }

    // ---- 27

    private static void stepOfTheLatestWay() { // "of the latest way() that was not STATE; NONE: none such, none"
        PianoHouse p = Built.withLoad(3, 3, 1);
        is("before any way", p.step(0), NONE);
        Built.ends(p, 0, 0, 2, 0);
        is("no way was asked for yet", p.step(0), NONE);
        p.way();
        is("the first step", p.step(0), 0);
        Built.ends(p, 0, 0, 0, 2);
        is("the way of before", p.step(0), 0);
        p.tear(0);
        is("way: not whole", p.way(), STATE);
        is("the way of before still", p.step(1), 0);
        is("its slides", p.count(1), 1);
        p.row(0, 1);
        is("another way", p.way(), 2);
        is("its first step", p.step(0), 2);
        p.house(1, 1);
        p.rows(0);
        is("behind house and rows", p.step(1), 2);
        p.rows(1);
        p.row(0, 2);
        is("no way", p.way(), NONE);
        is("no step", p.step(0), NONE);
        p.tear(0);
        is("way: not whole", p.way(), STATE);
        is("no step still", p.step(0), NONE);
        is("no slides still", p.count(1), NONE);
    }

    private static void stepStaysThroughOtherCalls() { // "of the latest way()"
        PianoHouse p = Built.withLoad(3, 3, 1);
        Built.wall(p, true, 1, 0, 1, 1);
        Built.ends(p, 0, 0, 0, 2);
        p.way();
        Built.ends(p, 2, 2, 2, 0);
        leavesTheWay(p, "22");
        p.end(true, 1, 0, 0);
        is("no way", p.way(), NONE);
        Built.ends(p, 2, 2, 2, 0);
        leavesTheWay(p, "");
        is("there is a way now", p.way(), 2);
        is("it is told", p.step(0), 3);
    }

    /** All calls but way(), the ends being others than those of the latest way. */
    private static void leavesTheWay(PianoHouse p, String way) {
        tellsTheWay("end", p, way);
        p.reached();
        tellsTheWay("reached", p, way);
        p.reaches(2, 1, 0);
        tellsTheWay("reaches", p, way);
        p.held();
        tellsTheWay("held", p, way);
        p.doors();
        tellsTheWay("doors", p, way);
        p.narrow(9);
        tellsTheWay("narrow", p, way);
        Built.drafted(p, "33");
        tellsTheWay("draft", p, way);
        p.check();
        tellsTheWay("check", p, way);
        p.pieces(0);
        p.piece(2, 1, 0);
        p.area(0, 0, 2);
        p.slide(2, 2, 0, 3);
        tellsTheWay("pieces, piece, area, slide", p, way);
        p.free(2, 2, 0);
        p.turning(2, 2);
        p.kind(2, 2, 0);
        p.steps(2, 2, 0, 1);
        tellsTheWay("free, turning, kind, steps", p, way);
        p.out(0, true);
        p.thing(false);
        p.fill(1, 0, 0, 1, 3);
        p.clear(1, 0, 0);
        tellsTheWay("out, thing, fill, clear", p, way);
        for (int i = 0; i < 4; i++) p.undo();
        tellsTheWay("undo", p, way);
        p.rows(2);
        p.row(1, 1);
        p.copy(1, 0, 1);
        p.tear(1);
        p.hold(0, 0);
        tellsTheWay("rows, row, copy, tear, hold", p, way);
        p.digest();
        tellsTheWay("digest", p, way);
    }

    private static void tellsTheWay(String behind, PianoHouse p, String way) {
        int length = way.length();
        is("behind " + behind + ": turns", p.count(0), length == 0 ? NONE : 0);
        is("behind " + behind + ": slides", p.count(1), length == 0 ? NONE : 1);
        for (int i = 0; i < length; i++) is("behind " + behind + ": step " + i, p.step(i), way.charAt(i) - '0');
        is("behind " + behind + ": no more steps", p.step(length), NONE);
    }

    private static void stepOfFirstAndLast() {
        PianoHouse p = Built.withLoad(4, 1, 1);
        for (int far = 1; far < 4; far++) {
            Built.ends(p, 0, 0, far, 0);
            is("way", p.way(), far);
            is("the first", p.step(0), 0);
            is("the last", p.step(far - 1), 0);
            for (int wrong : new int[] {LEAST, -1, far, far + 1, 1764, MOST}) is("step " + wrong, p.step(wrong), NONE);
        }
        Built.ends(p, 1, 0, 0, 0);
        p.way();
        is("a shorter way behind a longer one", p.step(1), NONE);
        is("its step", p.step(0), 1);
    }

    // ---- 28

    private static void countOfTurnsAndSlides() { // "A SLIDE: STEPS 0 to 3 of one kind, one behind the other"
        PianoHouse p = Built.withLoad(20, 20, 1);
        counts(p, "10,10,0,10,10,1", 1, 0);
        counts(p, "10,10,0,10,10,2", 2, 0);
        counts(p, "10,10,0,10,10,3", 1, 0);
        counts(p, "10,10,0,11,10,0", 0, 1);
        counts(p, "10,10,0,10,9,0", 0, 1);
        counts(p, "10,10,0,12,12,0", 0, 2);
        counts(p, "10,10,0,12,12,2", 2, 2);
        // The turn may be nowhere but in between: it parts what is of one kind.
        counts(p, "0,10,0,20,10,2", 2, 2);
        counts(p, "0,10,0,20,9,1", 1, 3);
        PianoHouse flat = Built.withLoad(6, 6, 3);
        flat.end(false, 1, 3, 0);
        flat.end(true, 6, 3, 1);
        isWay("a turn in between", flat, "004000");
        is("turns", flat.count(0), 1);
        is("a turn parts slides of one kind", flat.count(1), 2);
    }

    /** A way between two states, given as x, y, q each: its turns and slides. */
    private static void counts(PianoHouse p, String ends, int turns, int slides) {
        String[] s = ends.split(",");
        p.end(false, Integer.parseInt(s[0]), Integer.parseInt(s[1]), Integer.parseInt(s[2]));
        p.end(true, Integer.parseInt(s[3]), Integer.parseInt(s[4]), Integer.parseInt(s[5]));
        String way = ends + ": " + Built.wayText(p);
        is(way + ": turns", p.count(0), turns);
        is(way + ": slides", p.count(1), slides);
    }

    private static void countWithoutWay() { // "NONE: there was none. BAD."
        PianoHouse p = new PianoHouse();
        int[] wrongs = {LEAST, -1, 2, MOST};
        for (int wrong : wrongs) is("before any way: " + wrong, p.count(wrong), BAD);
        is("before any way: turns", p.count(0), NONE);
        is("before any way: slides", p.count(1), NONE);
        p.rows(1);
        p.row(0, 1);
        p.way();
        for (int wrong : wrongs) is("of a way: " + wrong, p.count(wrong), BAD);
        is("of a way: turns", p.count(0), 0);
        p.row(0, 2);
        p.way();
        for (int wrong : wrongs) is("of no way: " + wrong, p.count(wrong), BAD);
        is("of no way: turns", p.count(0), NONE);
        is("of no way: slides", p.count(1), NONE);
    }

    // ---- 29, 30

    private static void reachedFromNoneToAll() { // "(itself, too; 0: it is not FREE)"
        PianoHouse p = Built.withLoad(1, 1, 1);
        is("itself alone", p.reached(), 1);
        p.end(false, 0, 1, 0);
        is("not free", p.reached(), 0);
        p.house(20, 20);
        is("all", p.reached(), 1600);
        p.house(3, 3);
        is("all of one position", p.reached(), 9);
        p.house(4, 4);
        is("all of all", p.reached(), 64);
        Built.wall(p, true, 0, 0, 4, 4);
        is("on a door", p.reached(), 0);
        p.out(0, true);
        is("the door is out", p.reached(), 64);
        p.end(false, 4, 4, 2);
        is("from the last place", p.reached(), 64);
    }

    private static void reachesWhatAWayLeadsTo() { // "1, 0. BAD; STATE"
        PianoHouse p = Built.withLoad(20, 20, 1);
        is("itself", p.reaches(0, 0, 0), 1);
        is("the last place", p.reaches(20, 20, 2), 1);
        is("the last place where it is not free", p.reaches(20, 20, 0), 0);
        is("along and up apart", p.reaches(20, 19, 1), 1);
        is("the other way round it is not free", p.reaches(19, 20, 1), 0);
        for (int wrong : new int[] {LEAST, -1, 21, MOST}) {
            is("x " + wrong, p.reaches(wrong, 0, 0), BAD);
            is("y " + wrong, p.reaches(0, wrong, 0), BAD);
        }
        for (int wrong : new int[] {LEAST, -1, 4, MOST}) is("q " + wrong, p.reaches(0, 0, wrong), BAD);
        p.house(3, 3);
        for (int q = 0; q < 4; q++) is("without turns, position " + q, p.reaches(1, 1, q), q == 0 ? 1 : 0);
        p.end(false, 3, 3, 0);
        is("the beginning is not free: nor itself", p.reaches(3, 3, 0), 0);
        is("nor any", p.reaches(0, 0, 0), 0);
    }

    /** A room of 4 by 4 beside a wall, once along the house and once up: one place to turn at. */
    private static void reachesAlongAndUpApart() { // "to a PLACE in a POSITION"
        PianoHouse wide = Built.withLoad(9, 4, 1), tall = Built.withLoad(4, 9, 1);
        Built.wall(wide, false, 4, 0, 1, 4);
        Built.wall(tall, false, 0, 4, 4, 1);
        for (int far = 0; far <= 9; far++) {
            for (int side = 0; side <= 4; side++) {
                String place = far + " far, " + side + " aside";
                int as = far < 4 && side < 4 ? 1 : 0, turned = far > 0 && far < 5 && side > 0 ? 1 : 0;
                is("wide, " + place, wide.reaches(far, side, 0), as);
                is("tall, " + place, tall.reaches(side, far, 0), as);
                is("wide, turned by a half, " + place, wide.reaches(far, side, 2), turned);
                is("tall, turned by a half, " + place, tall.reaches(side, far, 2), turned);
            }
        }
    }

    // ---- 31

    private static void heldByNoneToAll() { // "as bits of THINGS (0 also if ..)"
        PianoHouse p = Built.withLoad(2, 1, 1);
        Built.ends(p, 0, 0, 0, 1);
        is("no way, and no things", p.held(), 0);
        for (int t = 0; t < 12; t++) {
            Built.wall(p, t >= 6, 1, 0, 1, 1);
            is("held by all up to " + t, p.held(), (2 << t) - 1);
        }
        for (int t = 6; t < 12; t++) p.out(t, true);
        is("not by what is out", p.held(), 63);
        p.out(11, false);
        is("by the last thing", p.held(), 63 + 2048);
    }

    private static void heldByOneMoreStep() { // "on which THE LOAD would lie (0 to 3) .. by one more STEP from a state"
        PianoHouse p = Built.withLoad(7, 7, 1);
        for (int i = 0; i < 2; i++) {
            Built.wall(p, false, 0, 2 - i, 7, 1);
            Built.wall(p, false, 0, 4 + i, 7, 1);
            Built.wall(p, false, 2 - i, 0, 1, 7);
            Built.wall(p, false, 4 + i, 0, 1, 7);
        }
        Built.ends(p, 3, 3, 0, 6);
        // A turn about the corner (3, 3) needs two squares each way: things 4 and 6 behind are needed, 5 and 7 are not.
        is("on all four sides, behind where a turn needs it", p.held(), 1 + 2 + 4 + 8 + 16 + 64);
        int[][] sides = {{4, 3}, {2, 3}, {3, 4}, {3, 2}};
        for (int[] side : sides) {
            PianoHouse slot = Built.withLoad(7, 7, 1);
            Built.wall(slot, true, side[0], side[1], 1, 1);
            Built.wall(slot, false, 2, 2, 3, 3);
            slot.clear(1, 3, 3);
            Built.ends(slot, 3, 3, 0, 0);
            is("by a door and the wall on it", slot.held(), 3);
            slot.out(0, true);
            is("not by a door that is out", slot.held(), 2);
        }
    }

    private static void heldByWhatATurnNeeds() { // "or that would have to be OPEN (4, 5)"
        PianoHouse p = Built.withLoad(6, 6, 1);
        // Three squares along the middle: each slide is free but those to the walls; a thing apart is needed by turns.
        Built.wall(p, false, 0, 3, 6, 1);
        Built.wall(p, false, 0, 1, 6, 1);
        Built.ends(p, 0, 2, 0, 5);
        is("the walls", p.held(), 3);
        int t = p.thing(true);
        for (int y = 0; y < 6; y++) {
            p.fill(t, 3, y, 1, 1);
            // At (x, 2) a turn needs rows 0 to 3, of rows 0 and 3 the squares x - 1 and x.
            is("a door in row " + y, p.held(), y <= 3 ? 7 : 3);
            p.undo();
        }
        PianoHouse end = Built.withLoad(4, 4, 1);
        Built.wall(end, false, 0, 0, 4, 1);
        end.end(false, 2, 2, 0);
        end.end(true, 2, 2, 1);
        is("the turn itself is held", end.held(), 1);
        end.clear(0, 1, 0);
        is("by one square of it", end.held(), 1);
        end.clear(0, 2, 0);
        is("its corners are not needed: there is a way", end.held(), 0);
        is("the way", end.way(), 1);
    }

    private static void heldByEachSquareOfATurn() {
        for (int y = 0; y < 6; y++) {
            // A larger load before: what it needed is needed no more.
            PianoHouse p = Built.withLoad(6, 6, 7);
            p.way();
            p.row(0, 1);
            Built.wall(p, false, 2, 2, 3, 3);
            p.clear(0, 3, 3);
            p.thing(true);
            Built.ends(p, 3, 3, 0, 0);
            for (int x = 0; x < 6; x++) {
                int dx = Math.min(Math.abs(x - 3), Math.abs(x - 2)), dy = Math.min(Math.abs(y - 3), Math.abs(y - 2));
                boolean on = x == 3 && y == 3;
                p.fill(1, x, y, 1, 1);
                is("a door at " + x + ", " + y, p.held(), on ? 0 : dx * dx + dy * dy < 2 ? 3 : 1);
                p.undo();
            }
        }
    }

    /** A wall of five things, one a square, across a house, once along it and once up, near and far. */
    private static void heldAlongAndUpApart() {
        for (int at = 2; at < 12; at++) {
            PianoHouse wide = Built.withLoad(13, 5, 1), tall = Built.withLoad(5, 13, 1);
            for (int side = 0; side < 5; side++) {
                Built.wall(wide, false, at, side, 1, 1);
                Built.wall(tall, false, side, at, 1, 1);
            }
            wide.end(true, 12, 0, 0);
            tall.end(true, 0, 12, 0);
            is("wide, the wall at " + at, wide.held(), 31);
            is("tall, the wall at " + at, tall.held(), 31);
            for (int side = 0; side < 5; side++) {
                wide.clear(side, at, side);
                tall.clear(side, side, at);
                wide.fill(side, at + 1, side, 1, 1);
                tall.fill(side, side, at + 1, 1, 1);
                wide.end(true, 13, 0, 0);
                tall.end(true, 0, 13, 0);
                is("wide, in the gap at " + at + ", " + side, wide.held(), 31);
                is("tall, in the gap at " + at + ", " + side, tall.held(), 31);
                for (int i = 0; i < 2; i++) {
                    wide.undo();
                    tall.undo();
                }
            }
        }
    }

    private static void heldWithoutBeginningOrWithWay() { // "0 also if there is a WAY, or the BEGINNING is not FREE"
        PianoHouse p = Built.withLoad(3, 1, 1);
        Built.wall(p, false, 1, 0, 1, 1);
        is("there is a way of no steps", p.held(), 0);
        Built.ends(p, 0, 0, 2, 0);
        is("there is none", p.held(), 1);
        Built.ends(p, 1, 0, 2, 0);
        is("the beginning is not free", p.held(), 0);
        Built.ends(p, 0, 0, 1, 0);
        is("the goal is not free", p.held(), 1);
        Built.ends(p, 1, 0, 1, 0);
        is("both are not free, and are one", p.held(), 0);
    }

    // ---- 32

    /** A corridor with doors at 1, 3, .. 11: so many of them, thing 0 the first. */
    private static PianoHouse corridor(int doors) {
        PianoHouse p = Built.withLoad(13, 1, 1);
        for (int i = 0; i < doors; i++) Built.wall(p, true, 2 * i + 1, 0, 1, 1);
        Built.ends(p, 0, 0, 12, 0);
        return p;
    }

    private static void doorsFromNoneToSix() { // "have to be OUT, too, for a WAY .. (0: there is one)"
        for (int n = 0; n <= 6; n++) is("doors in the way: " + n, corridor(n).doors(), (1 << n) - 1);
        PianoHouse p = corridor(6);
        for (int t = 5; t >= 0; t--) {
            p.out(t, true);
            is("those that are out are not told", p.doors(), (1 << t) - 1);
        }
        is("many(3): nothing was done by it", p.many(3), 18);
        PianoHouse high = Built.withLoad(13, 2, 1);
        for (int t = 0; t < 6; t++) Built.wall(high, false, 0, 1, 13, 1);
        for (int t = 6; t < 12; t++) Built.wall(high, true, 2 * t - 11, 0, 1, 1);
        Built.ends(high, 0, 0, 12, 0);
        is("the last six things", high.doors(), 4032);
        high.end(true, 10, 0, 0);
        is("but the last", high.doors(), 1984);
    }

    private static void doorsNotWithAll() { // "NONE: not with all"
        PianoHouse p = corridor(6);
        Built.wall(p, false, 7, 0, 1, 1);
        is("a wall on a door", p.doors(), NONE);
        p.clear(6, 7, 0);
        is("no wall", p.doors(), 63);
        p.end(true, 13, 0, 0);
        is("the goal is free with no doors", p.doors(), NONE);
        p.end(true, 12, 0, 0);
        p.end(false, 13, 0, 0);
        is("the beginning is free with no doors", p.doors(), NONE);
        PianoHouse none = Built.withLoad(3, 1, 1);
        Built.wall(none, false, 1, 0, 1, 1);
        Built.ends(none, 0, 0, 2, 0);
        is("there are no doors", none.doors(), NONE);
        is("a thing is no door", none.thing(true), 1);
        is("a door elsewhere", none.doors(), NONE);
    }

    private static void doorsAsFewAsCanBe() { // "as few as can be"
        PianoHouse p = Built.withLoad(13, 3, 1);
        Built.wall(p, false, 0, 1, 13, 1);
        p.clear(0, 0, 1);
        p.clear(0, 12, 1);
        for (int i = 0; i < 5; i++) Built.wall(p, true, 2 * i + 1, 0, 1, 1);
        Built.wall(p, true, 6, 2, 1, 1);
        Built.ends(p, 0, 0, 12, 0);
        is("one door, the last, not five", p.doors(), 64);
        p.out(5, true);
        is("one door still, not four", p.doors(), 64);
        for (int t = 2; t < 5; t++) p.out(t, true);
        is("one and one: the least", p.doors(), 2);
        p.out(1, true);
        is("all of one way are out", p.doors(), 0);
    }

    private static void doorsOfTheLeastBits() { // "of these the least row of bits"
        PianoHouse p = Built.withLoad(5, 5, 1);
        Built.wall(p, false, 0, 1, 5, 1);
        Built.wall(p, false, 0, 3, 5, 1);
        for (int x = 0; x < 3; x++) p.clear(0, x, 1);
        for (int x = 0; x < 3; x++) p.clear(1, x, 3);
        int[][] at = {{0, 1}, {0, 3}, {1, 3}, {1, 1}, {2, 1}, {2, 3}};
        for (int[] a : at) Built.wall(p, true, a[0], a[1], 1, 1);
        // Things 2, 5, 6 are doors of the lower wall, 3, 4, 7 of the upper one.
        Built.ends(p, 4, 0, 4, 4);
        is("the least of each", p.doors(), 4 + 8);
        p.fill(0, 0, 1, 1, 1);
        is("the least but one of the lower wall", p.doors(), 8 + 32);
        p.fill(1, 0, 3, 1, 1);
        is("and of the upper one", p.doors(), 16 + 32);
        p.fill(0, 1, 1, 1, 1);
        is("the last of the lower wall", p.doors(), 16 + 64);
    }

    private static void doorsOnTheEnds() {
        PianoHouse p = Built.withLoad(2, 1, 1);
        Built.wall(p, true, 0, 0, 1, 1);
        Built.wall(p, true, 1, 0, 1, 1);
        Built.ends(p, 0, 0, 1, 0);
        is("one on each end", p.doors(), 3);
        Built.ends(p, 1, 0, 1, 0);
        is("one on both ends", p.doors(), 2);
        p.out(1, true);
        is("it is out", p.doors(), 0);
    }

    // ---- 33

    private static void narrowByTheSize() { // "(what is not of THE HOUSE is SHUT, too)"
        for (int side = 1; side <= 20; side++) {
            PianoHouse p = Built.withLoad(side, 20, 1);
            int middle = (side - 1) / 2;
            Built.ends(p, middle, 10, middle, 10);
            is("a house " + side + " along", p.narrow(9), middle);
            p.house(20, side);
            Built.ends(p, 10, middle, 10, middle);
            is("a house " + side + " up", p.narrow(9), middle);
        }
    }

    private static void narrowOfAtMost() { // "The greatest n (0 .. most)"; "BAD: most not 0 .. 9"
        PianoHouse p = Built.withLoad(20, 20, 1);
        Built.ends(p, 10, 10, 10, 10);
        for (int most = 0; most <= 9; most++) is("at most " + most, p.narrow(most), most);
        for (int wrong : new int[] {LEAST, -1, 10, 11, MOST}) is("at most " + wrong, p.narrow(wrong), BAD);
        Built.ends(p, 10, 10, 15, 10);
        for (int most = 0; most <= 9; most++) is("to x 15, at most " + most, p.narrow(most), Math.min(most, 4));
        Built.ends(p, 10, 10, 19, 10);
        for (int most = 0; most <= 9; most++) is("to the wall, at most " + most, p.narrow(most), 0);
    }

    private static void narrowByCorners() { // "that is at most n from a SHUT one, along and up"
        PianoHouse p = Built.withLoad(19, 19, 1);
        Built.ends(p, 9, 9, 9, 9);
        p.thing(false);
        for (int n = 1; n <= 8; n++) {
            int[][] at = {{9 + n, 9 + n}, {9 - n, 9 + n}, {9 + n, 9 - n}, {9 - n, 9 - n}, {9 + n, 9}, {9, 9 - n}, {9 - n, 8}, {8, 9 + n}};
            for (int[] a : at) {
                p.fill(0, a[0], a[1], 1, 1);
                is("shut at " + a[0] + ", " + a[1], p.narrow(9), n - 1);
                p.undo();
            }
        }
    }

    private static void narrowAboutDoors() {
        PianoHouse p = Built.withLoad(9, 9, 1);
        Built.ends(p, 4, 4, 4, 4);
        Built.wall(p, true, 7, 4, 1, 1);
        is("a door that is in grows", p.narrow(9), 2);
        p.out(0, true);
        is("a door that is out does not", p.narrow(9), 4);
        p.out(0, false);
        is("in again", p.narrow(9), 2);
        is("the house is as it was", p.open(6, 4), 1);
    }

    private static void narrowNotWithNone() { // "NONE: none with 0"
        PianoHouse p = Built.withLoad(5, 1, 1);
        Built.ends(p, 0, 0, 4, 0);
        is("just with 0", p.narrow(9), 0);
        Built.wall(p, true, 2, 0, 1, 1);
        is("none with 0", p.narrow(9), NONE);
        is("none with 0, at most 0", p.narrow(0), NONE);
        p.out(0, true);
        is("0 at most 0", p.narrow(0), 0);
        p.end(true, 5, 0, 0);
        is("the goal is not free", p.narrow(0), NONE);
        Built.ends(p, 5, 0, 5, 0);
        is("nor the beginning", p.narrow(0), NONE);
    }

    // ---- 34

    private static void draftOfSixSteps() { // "A STEP comes behind THE DRAFT: how many it has. BAD"
        PianoHouse p = new PianoHouse();
        for (int wrong : new int[] {LEAST, -1, 6, MOST}) is("draft " + wrong, p.draft(wrong), BAD);
        is("empty", p.many(4), 0);
        for (int step = 0; step < 6; step++) is("draft " + step, p.draft(step), step + 1);
        for (int wrong : new int[] {LEAST, -1, 6, MOST}) is("draft " + wrong, p.draft(wrong), BAD);
        is("six", p.many(4), 6);
        p.house(5, 5);
        p.rows(1);
        is("house and rows leave it", p.draft(0), 7);
    }

    private static void draftOfTwoHundred() { // "FULL: 200"
        PianoHouse p = new PianoHouse();
        for (int i = 1; i <= 200; i++) is("draft " + i, p.draft(i % 6), i);
        for (int step = 0; step < 6; step++) is("the 201st", p.draft(step), FULL);
        is("the 201st, none: BAD ahead of FULL", p.draft(6), BAD);
        is("the 201st, none: BAD ahead of FULL", p.draft(-1), BAD);
        is("two hundred", p.many(4), 200);
        p.check();
        is("the first again", p.draft(0), 1);
    }

    // ---- 35

    private static void checkOfNoSteps() { // "(its length: it ends elsewhere, or the BEGINNING is not FREE with no STEPS)"
        PianoHouse p = Built.withLoad(2, 2, 1);
        is("the beginning is the goal", p.check(), 1);
        Built.ends(p, 0, 0, 1, 0);
        is("the goal is elsewhere", p.check(), -10);
        Built.ends(p, 2, 0, 2, 0);
        is("the beginning is not free, and is the goal", p.check(), -10);
        p.end(true, 0, 0, 0);
        is("the beginning is not free", p.check(), -10);
        p.end(false, 0, 0, 1);
        p.end(true, 0, 0, 0);
        is("not free in its position", p.check(), -10);
    }

    private static void checkOfTheFirstWrongStep() { // "- 10 less the place of the first STEP that is none"
        PianoHouse p = Built.withLoad(3, 3, 1);
        Built.ends(p, 0, 0, 2, 2);
        String[] drafts = {"10022", "01022", "00022", "00202", "00223", "00224", "00225", "002200", "002202", "4", "5", "3", "04"};
        int[] due = {-10, -15, -12, -13, -15, -14, -14, -14, -14, -10, -10, -10, -11};
        for (int i = 0; i < drafts.length; i++) {
            Built.drafted(p, drafts[i]);
            is("draft " + drafts[i], p.check(), due[i]);
        }
        Built.drafted(p, "0022");
        is("a way", p.check(), 1);
        Built.ends(p, 3, 0, 2, 2);
        Built.drafted(p, "1022");
        is("the beginning is not free: the first step is none", p.check(), -10);
    }

    private static void checkOfAFullDraft() {
        is("200 steps, to and fro", toAndFro(200, 0).check(), 1);
        is("200 steps, elsewhere", toAndFro(200, 1).check(), -210);
        is("199 steps", toAndFro(199, 1).check(), 1);
        PianoHouse last = toAndFro(199, 1);
        last.draft(2);
        is("the last of 200 is none", last.check(), -209);
        PianoHouse lastButOne = toAndFro(198, 1);
        lastButOne.draft(3);
        lastButOne.draft(0);
        is("the last but one is none", lastButOne.check(), -208);
        PianoHouse far = windings();
        far.way();
        far.end(true, 8, 18, 0);
        for (int i = 0; i < 200; i++) far.draft(far.step(i));
        is("200 steps of the longest way", far.check(), 1);
    }

    /** A draft to and fro, and a goal so many steps away. */
    private static PianoHouse toAndFro(int length, int goal) {
        PianoHouse p = Built.withLoad(3, 1, 1);
        Built.ends(p, 0, 0, goal, 0);
        for (int i = 0; i < length; i++) p.draft(i % 2);
        return p;
    }

    private static void checkEndsElsewhere() { // "its length: it ends elsewhere"
        PianoHouse p = Built.withLoad(4, 4, 1);
        p.end(false, 2, 2, 0);
        p.end(true, 2, 2, 1);
        Built.drafted(p, "4");
        is("it ends there", p.check(), 1);
        Built.drafted(p, "5");
        is("in another position", p.check(), -11);
        Built.drafted(p, "40");
        is("at another place", p.check(), -12);
        Built.drafted(p, "4444");
        is("round to the beginning", p.check(), -14);
        p.end(true, 4, 4, 0);
        Built.drafted(p, "00");
        is("to a goal that is not free: the second step is none", p.check(), -11);
        Built.drafted(p, "02");
        is("beside a goal that is not free", p.check(), -12);
    }

    private static void checkTurnsOnFromTheLastPosition() { // "(modulo 4; 4 and 5 where it may be TURNED)"
        PianoHouse p = Built.withLoad(4, 4, 1);
        for (int q = 0; q < 4; q++) {
            p.end(false, 2, 2, q);
            p.end(true, 2, 2, (q + 1) % 4);
            Built.drafted(p, "4");
            is("4 from " + q, p.check(), 1);
            p.end(true, 2, 2, (q + 3) % 4);
            Built.drafted(p, "5");
            is("5 from " + q, p.check(), 1);
            p.end(true, 2, 2, q);
            Built.drafted(p, "44445555");
            is("round and back from " + q, p.check(), 1);
        }
        p.house(3, 3);
        Built.drafted(p, "4");
        is("where it may not be turned", p.check(), -10);
    }

    private static void checkEmptiesTheDraft() { // "THE DRAFT, which is empty then"; "STATE (it is empty then, too)"
        PianoHouse p = Built.withLoad(2, 1, 1);
        Built.ends(p, 0, 0, 1, 0);
        Built.drafted(p, "0");
        is("a way", p.check(), 1);
        is("empty behind a way", p.many(4), 0);
        is("the way is no more there", p.check(), -10);
        Built.drafted(p, "00");
        is("no way", p.check(), -11);
        is("empty behind none", p.many(4), 0);
        Built.drafted(p, "01");
        is("elsewhere", p.check(), -12);
        is("empty behind that", p.many(4), 0);
        Built.drafted(p, "0");
        p.tear(0);
        is("not whole", p.check(), STATE);
        is("empty behind STATE", p.many(4), 0);
        p.row(0, 1);
        is("no steps are left", p.check(), -10);
        Built.drafted(p, "0");
        is("a way again", p.check(), 1);
    }

    // ---- 36 to 39

    private static void manyFromNoneToAll() { // "0 W, 1 H, 2 THINGS, 3 what can be undone, 4 STEPS in THE DRAFT. BAD."
        PianoHouse p = new PianoHouse();
        int[] least = {1, 1, 0, 0, 0}, most = {20, 19, 12, 20, 200};
        for (int what = 0; what < 5; what++) is("least " + what, p.many(what), least[what]);
        p.house(20, 19);
        for (int i = 0; i < 12; i++) p.thing(i > 5);
        for (int i = 0; i < 12; i++) p.fill(i, i, i, 1, 1);
        for (int i = 0; i < 200; i++) p.draft(0);
        for (int what = 0; what < 5; what++) is("most " + what, p.many(what), most[what]);
        for (int wrong : new int[] {LEAST, -1, 5, MOST}) is("many " + wrong, p.many(wrong), BAD);
    }

    private static void findingsOfEach() { // "The latest FINDING (0 before any)"; "How often a FINDING (1 .. 4) was answered. BAD."
        PianoHouse p = Built.withLoad(2, 2, 1);
        is("before any", p.finding(), 0);
        for (int f = 1; f <= 4; f++) is("none of " + f, p.findings(f), 0);
        for (int often = 1; often <= 3; often++) {
            for (int f = 1; f <= 4; f++) {
                is("finding " + f, found(p, f), FINDING);
                is("the latest", p.finding(), f);
                for (int other = 1; other <= 4; other++) {
                    is("of " + other, p.findings(other), other <= f ? often : often - 1);
                }
            }
        }
        p.house(0, 0);
        p.undo();
        p.told(0);
        is("other answers leave the latest", p.finding(), SIZE);
        p.house(1, 1);
        is("a house leaves it", p.finding(), SIZE);
        for (int wrong : new int[] {LEAST, -1, 0, 5, MOST}) is("findings " + wrong, p.findings(wrong), BAD);
    }

    private static int found(PianoHouse p, int finding) {
        switch (finding) {
            case NOTHING:
                p.rows(2);
                p.row(0, 1);
                return p.tear(1);
            case BEYOND: return p.told(2);
            case UNLIKE: return p.steps(0, 0, 0, 4);
            default: return p.rows(-1);
        }
    }

    private static void orderOfRefusals() { // "the first of these that fits, in this order: BAD -1, FULL -2, STATE -4, FINDING -3"
        PianoHouse p = new PianoHouse();
        for (int i = 0; i < 200; i++) p.draft(0);
        is("BAD ahead of FULL: draft", p.draft(6), BAD);
        is("BAD ahead of STATE: free", p.free(2, 0, 0), BAD);
        is("BAD ahead of STATE: steps", p.steps(0, 0, 0, 5), BAD);
        is("BAD ahead of STATE: narrow", p.narrow(10), BAD);
        is("BAD ahead of FINDING: row", p.row(0, 64), BAD);
        is("STATE ahead of FINDING: steps", p.steps(0, 0, 0, 1), STATE);
        is("BAD ahead of NONE: count", p.count(2), BAD);
        is("STATE ahead of NONE: slide", p.slide(1, 1, 0, 0), STATE);
        is("STATE ahead of NONE: piece", p.piece(1, 1, 0), STATE);
        is("STATE ahead of NONE: narrow", p.narrow(0), STATE);
        is("no finding", p.finding(), 0);
        is("FINDING: row", p.row(0, 63), FINDING);
        is("then a finding", p.finding(), BEYOND);
    }

    private static void digestOfEdges() { // "of each SQUARE, by y, then x, on() (NONE); .. of each ROW its bits (NONE: missing)"
        PianoHouse p = new PianoHouse();
        p.house(3, 2);
        Built.wall(p, true, 0, 0, 1, 1);
        for (int t = 1; t < 12; t++) Built.wall(p, t < 6, 2, 1, 1, 1);
        Built.wall(p, true, 0, 0, 3, 2);
        p.out(0, true);
        p.out(5, true);
        Built.tellLoad(p, 6, 5, 63, 0, 1, 2, 4, 8);
        p.tear(0);
        p.tear(5);
        p.end(false, 3, 2, 3);
        is("digest", p.digest(), Built.digestOf(3, 2, NONE, NONE, NONE, NONE, NONE, 1,
            1, 1, 1, 0, 1, 0, 1, 0, 1, 0, 1, 1, 0, 0, 0, 0, 0, 0, 0, 0, 0, 0, 0, 0,
            NONE, 0, 1, 2, 4, NONE, 6, 5, 3, 2, 3, 0, 0, 0));
        p.way();
        p.draft(0);
        p.told(9);
        is("ways, drafts and findings are not in it", p.digest(), p.digest());
        PianoHouse full = new PianoHouse();
        full.house(20, 20);
        Built.wall(full, false, 0, 0, 20, 20);
        full.end(true, 20, 20, 3);
        int[] all = new int[2 + 400 + 2 + 2 + 6];
        all[0] = 20;
        all[1] = 20;
        all[all.length - 3] = 20;
        all[all.length - 2] = 20;
        all[all.length - 1] = 3;
        is("digest of a full house", full.digest(), Built.digestOf(all));
    }
}
