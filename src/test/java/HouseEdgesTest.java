/**
 * Promises 1 to 16, the house and the load: of each sentence of the document that names an edge the
 * last value that is taken and the first that is not, on each side; what is empty and what is full.
 */
public final class HouseEdgesTest {
    private static final int BAD = -1, FULL = -2, FINDING = -3, STATE = -4, NONE = -9;
    private static final int NOTHING = 1, BEYOND = 2, SIZE = 4;
    private static final int LEAST = Integer.MIN_VALUE, MOST = Integer.MAX_VALUE;
    private static final Due DUE = new Due("HouseEdgesTest");

    public static void main(String[] args) {
        newHouse();
        newLoad();
        newEnds();
        houseOfOneToTwenty();
        houseWithoutThings();
        houseSetsTheEnds();
        houseLeavesNothingToUndo();
        twelveThings();
        sixDoors();
        theTwelfthThingIsTheSixthDoor();
        undoneThingsMakeRoom();
        aThingIsEmptyAndIn();
        fillOfOneToTwenty();
        fillAsFarAsInTheHouse();
        fillHasTheseToo();
        fillOfWhatThereIs();
        clearOfOneSquare();
        clearOfWhatThereIs();
        outOfFirstAndLastDoor();
        outOfNoDoor();
        undoOfEachKind();
        undoWithADoorOut();
        undoOfTwenty();
        undoOfTheLatestNotUndone();
        undoOfWhatChangedNothing();
        squaresOfTheHouse();
        openWithoutThings();
        onTheLeastThatIsNotOut();
        rowsFromNoneToSix();
        rowsAllMissing();
        rowOfNoneToSixSquares();
        rowOfFirstAndLast();
        tearOfWhatIsThere();
        copyOfAllAndNone();
        copyAsIfTakenAhead();
        copyAllOrNone();
        copyOfMissingRows();
        toldRows();
        holdFromNoneToSix();
        loadFromNoSquareToAll();
        loadIsWhole();
        loadReaches();
        loadOfWhat();
        DUE.end();
    }

    private static void is(String call, long got, long want) {
        DUE.is(call, got, want);
    }

    private static void isFound(PianoHouse p, String call, int got, int finding) {
        is(call, got, FINDING);
        is(call + ", finding()", p.finding(), finding);
    }

    private static PianoHouse housed(int w, int h) {
        PianoHouse p = new PianoHouse();
        p.house(w, h);
        return p;
    }

    // ---- 1

    private static void newHouse() { // "A HOUSE of 1 by 1; no THINGS"
        PianoHouse p = new PianoHouse();
        is("new: W", p.many(0), 1);
        is("new: H", p.many(1), 1);
        is("new: things", p.many(2), 0);
        is("new: nothing to undo", p.many(3), 0);
        is("new: undo", p.undo(), STATE);
        is("new: no draft", p.many(4), 0);
        is("new: open(0, 0)", p.open(0, 0), 1);
        is("new: open(1, 0)", p.open(1, 0), BAD);
        is("new: open(0, 1)", p.open(0, 1), BAD);
        is("new: on(0, 0)", p.on(0, 0), NONE);
        is("new: no thing 0 to fill", p.fill(0, 0, 0, 1, 1), BAD);
        is("new: no thing 0 to clear", p.clear(0, 0, 0), BAD);
        is("new: no door 0", p.out(0, true), BAD);
        is("new: the first thing", p.thing(false), 0);
    }

    private static void newLoad() { // "THE LOAD has no ROWS, HOLD (0, 0)"
        PianoHouse p = new PianoHouse();
        is("new: rows", p.load(3), 0);
        is("new: not whole", p.load(1), 0);
        isFound(p, "new: told(0)", p.told(0), BEYOND);
        p.rows(1);
        p.row(0, 1);
        is("new: held at the corner", p.load(2), 2);
        is("new: it fits", p.free(0, 0, 0), 1);
    }

    private static void newEnds() { // "BEGINNING, GOAL: (0, 0, 0)"
        PianoHouse p = new PianoHouse();
        is("new: digest", p.digest(), Built.digestOf(1, 1, NONE, 0, 0, 0, 0, 0, 0, 0, 0));
        p.rows(1);
        p.row(0, 1);
        is("new: the beginning is the goal, and free", p.way(), 0);
        is("new: it is reached", p.reaches(0, 0, 0), 1);
    }

    // ---- 2

    private static void houseOfOneToTwenty() { // "W times H SQUARES (1 .. 20 each)"; "w times h. BAD."
        PianoHouse p = new PianoHouse();
        for (int n = 1; n <= 20; n++) {
            is("house(" + n + ", 1)", p.house(n, 1), n);
            is("W", p.many(0), n);
            is("house(1, " + n + ")", p.house(1, n), n);
            is("H", p.many(1), n);
            is("house(" + n + ", 20)", p.house(n, 20), 20 * n);
        }
        for (int wrong : new int[] {LEAST, -20, -1, 0, 21, 22, 400, MOST}) {
            is("house(" + wrong + ", 1)", p.house(wrong, 1), BAD);
            is("house(1, " + wrong + ")", p.house(1, wrong), BAD);
            is("house(" + wrong + ", " + wrong + ")", p.house(wrong, wrong), BAD);
        }
        is("W stays", p.many(0), 20);
        is("H stays", p.many(1), 20);
    }

    private static void houseWithoutThings() { // "without THINGS"
        PianoHouse p = housed(20, 20);
        for (int t = 0; t < 12; t++) Built.wall(p, t < 6, 0, 0, 20, 20);
        for (int t = 0; t < 6; t++) p.out(t, true);
        p.house(20, 20);
        is("no things", p.many(2), 0);
        is("none at the first square", p.on(0, 0), NONE);
        is("none at the last square", p.on(19, 19), NONE);
        is("no thing 0", p.clear(0, 0, 0), BAD);
        for (int t = 0; t < 12; t++) is("room for thing " + t, p.thing(t >= 6), t);
        is("thing 0 is no door now", p.out(0, false), STATE);
        is("thing 6 is a door now, and not out", p.out(6, false), 0);
        is("thing 0 has no squares", p.fill(0, 3, 3, 1, 1), 1);
        is("thing 11 has no squares", p.fill(11, 4, 4, 1, 1), 1);
        is("a wall where a door was out of before", p.open(3, 3), 0);
    }

    private static void houseSetsTheEnds() { // "BEGINNING, GOAL are (0, 0, 0)"
        PianoHouse p = housed(20, 20);
        p.end(false, 20, 20, 3);
        p.end(true, 20, 20, 3);
        long ended = p.digest();
        DUE.holds("the ends are told", ended != housed(20, 20).digest());
        p.house(20, 21);
        p.house(0, 20);
        is("a wrong house leaves them", p.digest(), ended);
        p.house(20, 20);
        is("the same house sets them", p.digest(), housed(20, 20).digest());
        p.end(true, 0, 1, 0);
        p.house(1, 1);
        is("digest of a new house", p.digest(), new PianoHouse().digest());
    }

    private static void houseLeavesNothingToUndo() { // "there is nothing to undo"
        PianoHouse p = housed(2, 2);
        for (int i = 0; i < 3; i++) p.thing(false);
        p.house(2, 2);
        is("nothing to undo", p.many(3), 0);
        is("undo", p.undo(), STATE);
        for (int i = 0; i < 25; i++) p.thing(i % 2 == 0);
        for (int i = 0; i < 25; i++) p.fill(0, 0, 0, 1, 1);
        is("twenty to undo", p.many(3), 20);
        p.house(1, 1);
        is("nothing to undo behind twenty", p.undo(), STATE);
        p.thing(false);
        is("the first one behind it", p.undo(), 0);
        is("no things then", p.many(2), 0);
        is("nor squares of any", p.open(0, 0), 1);
        is("not back into the house of before", p.undo(), STATE);
        is("W is that of the latest house", p.many(0), 1);
    }

    // ---- 3

    private static void twelveThings() { // "THINGS 0, 1, .. (12 at most)"; "FULL: THINGS"
        PianoHouse p = housed(2, 1);
        for (int t = 0; t < 12; t++) is("thing " + t, p.thing(false), t);
        is("thing 12", p.thing(false), FULL);
        is("thing 12, a door, though there is none", p.thing(true), FULL);
        is("twelve", p.many(2), 12);
        is("twelve to undo", p.many(3), 12);
        is("the last is there", p.fill(11, 0, 0, 2, 1), 2);
        is("no thirteenth is there", p.fill(12, 0, 0, 1, 1), BAD);
    }

    private static void sixDoors() { // "a DOOR (6 at most)"; "FULL: .. DOORS"
        PianoHouse p = housed(2, 1);
        p.thing(false);
        for (int t = 1; t <= 6; t++) is("door " + t, p.thing(true), t);
        is("a seventh door", p.thing(true), FULL);
        is("seven things", p.many(2), 7);
        is("seven to undo", p.many(3), 7);
        for (int t = 1; t <= 6; t++) is("door " + t + " goes out", p.out(t, true), 0);
        is("a door that is out is a door", p.thing(true), FULL);
        for (int t = 7; t < 12; t++) is("thing " + t + " is no door", p.thing(false), t);
        is("both full", p.thing(false), FULL);
    }

    private static void theTwelfthThingIsTheSixthDoor() {
        PianoHouse p = housed(2, 1);
        for (int t = 0; t < 11; t++) p.thing(t < 5);
        is("the twelfth thing, the sixth door", p.thing(true), 11);
        is("it is a door", p.out(11, true), 0);
        is("then full", p.thing(true), FULL);
    }

    private static void undoneThingsMakeRoom() {
        PianoHouse p = housed(2, 1);
        for (int t = 0; t < 6; t++) p.thing(true);
        is("a seventh door", p.thing(true), FULL);
        is("undo of the sixth", p.undo(), 5);
        is("the sixth again", p.thing(true), 5);
        is("a seventh door again", p.thing(true), FULL);
        for (int t = 6; t < 12; t++) p.thing(false);
        is("a thirteenth thing", p.thing(false), FULL);
        is("undo of the twelfth", p.undo(), 11);
        is("the twelfth again", p.thing(false), 11);
        is("a thirteenth again", p.thing(false), FULL);
    }

    private static void aThingIsEmptyAndIn() { // "A THING without SQUARES (door: a DOOR, not OUT)"
        PianoHouse p = housed(2, 2);
        p.thing(true);
        p.fill(0, 0, 0, 2, 2);
        p.out(0, true);
        for (int i = 0; i < 3; i++) p.undo();
        is("the same number anew", p.thing(true), 0);
        is("without squares: first", p.on(0, 0), NONE);
        is("without squares: last", p.on(1, 1), NONE);
        is("not out", p.out(0, true), 0);
        is("a thing that is no door", p.thing(false), 1);
        is("no door", p.out(1, true), STATE);
        is("without squares: clear", p.clear(1, 0, 0), 0);
    }

    // ---- 4

    private static void fillOfOneToTwenty() { // "w or h not 1 .. 20"
        PianoHouse p = housed(20, 20);
        p.thing(false);
        is("1 by 1", p.fill(0, 0, 0, 1, 1), 1);
        is("20 by 1", p.fill(0, 0, 0, 20, 1), 20);
        is("1 by 20", p.fill(0, 0, 0, 1, 20), 39);
        is("20 by 20", p.fill(0, 0, 0, 20, 20), 400);
        for (int wrong : new int[] {LEAST, -1, 0, 21, MOST}) {
            is("w " + wrong, p.fill(0, 0, 0, wrong, 1), BAD);
            is("h " + wrong, p.fill(0, 0, 0, 1, wrong), BAD);
        }
        is("many(3)", p.many(3), 5);
        PianoHouse small = housed(2, 2);
        small.thing(false);
        is("21 is too much, though all would be beyond", small.fill(0, 1, 1, 21, 1), BAD);
        is("20 is not", small.fill(0, 1, 1, 20, 20), 1);
    }

    private static void fillAsFarAsInTheHouse() { // "as far as they are in THE HOUSE"
        PianoHouse p = housed(5, 3);
        p.thing(false);
        is("from the last square", p.fill(0, 4, 2, 20, 20), 1);
        is("up to the last one along", p.fill(0, 3, 0, 2, 1), 3);
        is("one more along", p.fill(0, 2, 1, 4, 1), 6);
        is("one more up", p.fill(0, 0, 1, 1, 3), 8);
        is("not into the next row", p.on(0, 0), NONE);
        p.house(1, 1);
        p.thing(false);
        is("a house of one square", p.fill(0, 0, 0, 20, 20), 1);
        p.house(20, 20);
        p.thing(false);
        is("the last square of the largest", p.fill(0, 19, 19, 20, 20), 1);
        is("it is the last", p.on(19, 19), 0);
    }

    private static void fillHasTheseToo() { // "has all SQUARES .., too .. : how many it has"
        PianoHouse p = housed(4, 4);
        p.thing(false);
        p.thing(false);
        is("the first", p.fill(0, 0, 0, 2, 2), 4);
        is("the same again", p.fill(0, 0, 0, 2, 2), 4);
        is("one side more", p.fill(0, 1, 1, 2, 2), 7);
        is("another thing's do not count", p.fill(1, 0, 0, 1, 1), 1);
        is("nor are they taken from it", p.fill(0, 0, 0, 1, 1), 7);
        is("all", p.fill(0, 0, 0, 4, 4), 16);
        p.thing(true);
        is("a door", p.fill(2, 0, 0, 2, 1), 2);
        p.out(2, true);
        is("a door that is out has its squares, and more", p.fill(2, 0, 3, 3, 1), 5);
        p.out(2, false);
        is("it has them when it is in again", p.fill(2, 0, 0, 1, 1), 5);
    }

    private static void fillOfWhatThereIs() { // "BAD: the THING, x, y not of THE HOUSE"
        PianoHouse p = housed(4, 3);
        p.thing(false);
        p.thing(false);
        is("thing 0 at the first square", p.fill(0, 0, 0, 1, 1), 1);
        is("thing 1 at the last square", p.fill(1, 3, 2, 1, 1), 1);
        for (int wrong : new int[] {LEAST, -1, 2, 12, 31, 32, 33, MOST}) is("thing " + wrong, p.fill(wrong, 0, 0, 1, 1), BAD);
        for (int wrong : new int[] {LEAST, -1, 4, 20, MOST}) is("x " + wrong, p.fill(0, wrong, 0, 1, 1), BAD);
        for (int wrong : new int[] {LEAST, -1, 3, 20, MOST}) is("y " + wrong, p.fill(0, 0, wrong, 1, 1), BAD);
        is("x -1, though the next would be in it", p.fill(0, -1, 0, 2, 1), BAD);
        is("y -1, though the next would be in it", p.fill(0, 0, -1, 1, 2), BAD);
        is("many(3)", p.many(3), 4);
        is("a square that is none shuts nothing", p.open(1, 0), 1);
    }

    // ---- 5

    private static void clearOfOneSquare() { // "A THING has a SQUARE no more: 1 if it had it"
        PianoHouse p = housed(20, 20);
        Built.wall(p, false, 0, 0, 20, 20);
        Built.wall(p, false, 0, 0, 20, 20);
        is("the first square", p.clear(0, 0, 0), 1);
        is("the first square again", p.clear(0, 0, 0), 0);
        is("the last square", p.clear(1, 19, 19), 1);
        is("the last square again", p.clear(1, 19, 19), 0);
        is("of the other it is still", p.on(0, 0), 1);
        is("of the first it is still", p.on(19, 19), 0);
        is("no other square went", p.fill(0, 0, 0, 1, 1), 400);
        p.house(1, 1);
        p.thing(false);
        is("a thing without squares", p.clear(0, 0, 0), 0);
        p.fill(0, 0, 0, 1, 1);
        is("its only square", p.clear(0, 0, 0), 1);
        is("open then", p.open(0, 0), 1);
        is("empty then", p.clear(0, 0, 0), 0);
    }

    private static void clearOfWhatThereIs() { // "BAD"
        PianoHouse p = housed(4, 3);
        Built.wall(p, false, 0, 0, 4, 3);
        Built.wall(p, false, 0, 0, 4, 3);
        for (int wrong : new int[] {LEAST, -1, 2, 12, 31, 32, 33, MOST}) is("thing " + wrong, p.clear(wrong, 0, 0), BAD);
        for (int wrong : new int[] {LEAST, -1, 4, 20, MOST}) is("x " + wrong, p.clear(0, wrong, 1), BAD);
        for (int wrong : new int[] {LEAST, -1, 3, 20, MOST}) is("y " + wrong, p.clear(0, 0, wrong), BAD);
        is("many(3)", p.many(3), 4);
        is("all are there", p.fill(0, 0, 0, 1, 1), 12);
        is("of the other, too", p.fill(1, 0, 0, 1, 1), 12);
    }

    // ---- 6

    private static void outOfFirstAndLastDoor() { // "A DOOR is OUT, or not: 1 if it was OUT, else 0"
        PianoHouse p = housed(12, 1);
        for (int t = 0; t < 12; t++) Built.wall(p, t == 0 || t == 11, t, 0, 1, 1);
        for (int t : new int[] {0, 11}) {
            is("in, and was in", p.out(t, false), 0);
            is("shut", p.open(t, 0), 0);
            is("out, and was in", p.out(t, true), 0);
            is("open", p.open(t, 0), 1);
            is("out, and was out", p.out(t, true), 1);
            is("open still", p.open(t, 0), 1);
            is("in, and was out", p.out(t, false), 1);
            is("shut again", p.open(t, 0), 0);
        }
        p.out(0, true);
        is("the last door stays in", p.open(11, 0), 0);
        p.out(11, true);
        p.out(0, false);
        is("the last door stays out", p.open(11, 0), 1);
    }

    private static void outOfNoDoor() { // "BAD; STATE: no DOOR"
        PianoHouse p = housed(2, 1);
        is("no thing yet", p.out(0, true), BAD);
        Built.wall(p, false, 0, 0, 1, 1);
        Built.wall(p, true, 1, 0, 1, 1);
        is("no door, out", p.out(0, true), STATE);
        is("no door, in", p.out(0, false), STATE);
        is("shut still", p.open(0, 0), 0);
        for (int wrong : new int[] {LEAST, -1, 2, 12, 31, 32, 33, MOST}) {
            is("out " + wrong, p.out(wrong, true), BAD);
            is("in " + wrong, p.out(wrong, false), BAD);
        }
        is("many(3)", p.many(3), 4);
    }

    // ---- 7

    private static void undoOfEachKind() { // "as ahead of the latest thing(), fill(), clear(), out()"
        PianoHouse p = housed(3, 3);
        Built.wall(p, true, 0, 0, 2, 3);
        long start = p.digest();
        p.fill(0, 2, 2, 1, 1);
        is("undo of fill", p.undo(), 2);
        is("as ahead of fill", p.digest(), start);
        p.clear(0, 0, 0);
        is("undo of clear", p.undo(), 2);
        is("as ahead of clear", p.digest(), start);
        p.out(0, true);
        is("undo of out", p.undo(), 2);
        is("as ahead of out", p.digest(), start);
        p.thing(false);
        is("undo of thing", p.undo(), 2);
        is("as ahead of thing", p.digest(), start);
        is("none but the first two are left", p.undo(), 1);
        is("the fill", p.undo(), 0);
        is("none is left", p.undo(), STATE);
        is("a house without things", p.digest(), housed(3, 3).digest());
    }

    private static void undoWithADoorOut() { // "THE HOUSE is as ahead of"
        PianoHouse p = housed(2, 2);
        for (int t = 0; t < 6; t++) Built.wall(p, true, 0, 0, 1, 1);
        p.out(0, true);
        p.out(5, true);
        long ahead = p.digest();
        p.out(5, false);
        is("undo of in", p.undo(), 14);
        is("out as ahead of it", p.digest(), ahead);
        p.fill(5, 1, 1, 1, 1);
        p.undo();
        is("undo of fill leaves it out", p.digest(), ahead);
        p.clear(0, 0, 0);
        p.undo();
        is("undo of clear leaves it out", p.digest(), ahead);
        p.thing(false);
        p.undo();
        is("undo of thing leaves it out", p.digest(), ahead);
        p.out(5, true);
        p.undo();
        is("undo of out where it was out", p.out(5, true), 1);
        p.undo();
        p.undo();
        is("undo of out of the last door", p.out(5, false), 0);
        is("the first is out still", p.out(0, false), 1);
    }

    private static void undoOfTwenty() { // "how many can be undone then (20 are kept). STATE."
        PianoHouse p = housed(20, 2);
        p.thing(false);
        long[] digests = new long[26];
        for (int i = 0; i < 25; i++) {
            digests[i] = p.digest();
            p.fill(0, i % 20, i / 20, 1, 1);
            is("kept", p.many(3), Math.min(i + 2, 20));
        }
        digests[25] = p.digest();
        for (int left = 19; left >= 0; left--) {
            is("left", p.undo(), left);
            is("many(3)", p.many(3), left);
            is("the house of then", p.digest(), digests[left + 5]);
        }
        is("the twenty-first", p.undo(), STATE);
        is("nothing changed by it", p.digest(), digests[5]);
        is("again", p.undo(), STATE);
        p.clear(0, 0, 0);
        is("one more can be undone", p.many(3), 1);
        is("it is undone", p.undo(), 0);
        is("as ahead of it", p.digest(), digests[5]);
    }

    private static void undoOfTheLatestNotUndone() { // "that was done and not undone"
        PianoHouse p = housed(4, 1);
        p.thing(false);
        p.fill(0, 0, 0, 1, 1);
        p.fill(0, 1, 0, 1, 1);
        is("undo of the second fill", p.undo(), 2);
        p.fill(0, 2, 0, 1, 1);
        is("refused: not done", p.fill(0, 4, 0, 1, 1), BAD);
        is("undo of the third fill", p.undo(), 2);
        is("the third is gone", p.open(2, 0), 1);
        is("undo of the first: the second was undone", p.undo(), 1);
        is("the first is gone", p.open(0, 0), 1);
        is("the second was gone", p.open(1, 0), 1);
        is("the thing is there", p.many(2), 1);
    }

    private static void undoOfWhatChangedNothing() {
        PianoHouse p = housed(2, 1);
        p.thing(true);
        is("cleared where it was not", p.clear(0, 0, 0), 0);
        is("in, and was in", p.out(0, false), 0);
        p.fill(0, 0, 0, 1, 1);
        is("filled where it was", p.fill(0, 0, 0, 1, 1), 1);
        is("all five were done", p.many(3), 5);
        is("undo of the second fill", p.undo(), 4);
        is("shut by the first", p.open(0, 0), 0);
        is("undo of the first fill", p.undo(), 3);
        is("open", p.open(0, 0), 1);
    }

    // ---- 8, 9

    private static void squaresOfTheHouse() { // "BAD"
        for (int[] size : new int[][] {{1, 1}, {20, 20}, {1, 20}, {20, 1}, {7, 4}}) {
            int w = size[0], h = size[1];
            PianoHouse p = housed(w, h);
            Built.wall(p, false, w - 1, h - 1, 1, 1);
            is("open at the last square", p.open(w - 1, h - 1), 0);
            is("on at the last square", p.on(w - 1, h - 1), 0);
            is("open at the first square", p.open(0, 0), w * h == 1 ? 0 : 1);
            is("on at the first square", p.on(0, 0), w * h == 1 ? 0 : NONE);
            for (int wrong : new int[] {LEAST, -1, w, MOST}) {
                is("open x " + wrong, p.open(wrong, 0), BAD);
                is("on x " + wrong, p.on(wrong, 0), BAD);
            }
            for (int wrong : new int[] {LEAST, -1, h, MOST}) {
                is("open y " + wrong, p.open(0, wrong), BAD);
                is("on y " + wrong, p.on(0, wrong), BAD);
            }
        }
    }

    private static void openWithoutThings() { // "A SQUARE is SHUT if a THING is on it that is not OUT"
        PianoHouse p = housed(2, 1);
        is("no thing", p.open(0, 0), 1);
        Built.wall(p, true, 0, 0, 1, 1);
        Built.wall(p, true, 0, 0, 1, 1);
        is("two doors", p.open(0, 0), 0);
        p.out(0, true);
        is("one of them out", p.open(0, 0), 0);
        p.out(1, true);
        is("both out", p.open(0, 0), 1);
        Built.wall(p, false, 0, 0, 1, 1);
        is("a wall on doors that are out", p.open(0, 0), 0);
        is("beside it", p.open(1, 0), 1);
    }

    private static void onTheLeastThatIsNotOut() { // "a SQUARE may be of several"; "The least THING .. ; NONE"
        PianoHouse p = housed(1, 1);
        for (int t = 0; t < 12; t++) Built.wall(p, t < 6, 0, 0, 1, 1);
        for (int t = 0; t < 6; t++) {
            is("all twelve, those below " + t + " out", p.on(0, 0), t);
            p.out(t, true);
        }
        for (int t = 6; t < 12; t++) {
            is("those below " + t + " out or cleared", p.on(0, 0), t);
            is("shut", p.open(0, 0), 0);
            p.clear(t, 0, 0);
        }
        is("none", p.on(0, 0), NONE);
        is("open", p.open(0, 0), 1);
        p.out(0, false);
        is("the first again", p.on(0, 0), 0);
    }

    // ---- 10

    private static void rowsFromNoneToSix() { // "(n 0 .. 6): n. BAD: n above 6; SIZE."
        PianoHouse p = new PianoHouse();
        for (int n = 0; n <= 6; n++) {
            is("rows(" + n + ")", p.rows(n), n);
            is("so many", p.load(3), n);
        }
        for (int wrong : new int[] {7, 8, 63, MOST}) is("rows(" + wrong + ")", p.rows(wrong), BAD);
        is("no finding for more", p.finding(), 0);
        int told = 0;
        for (int wrong : new int[] {-1, -2, -9, LEAST}) {
            isFound(p, "rows(" + wrong + ")", p.rows(wrong), SIZE);
            told++;
            is("so often", p.findings(SIZE), told);
        }
        is("six still", p.load(3), 6);
    }

    private static void rowsAllMissing() { // "THE LOAD has n ROWS, all missing"
        PianoHouse p = new PianoHouse();
        p.rows(6);
        for (int j = 0; j < 6; j++) p.row(j, 63);
        p.rows(6);
        for (int j = 0; j < 6; j++) isFound(p, "told(" + j + ")", p.told(j), NOTHING);
        is("no squares", p.load(0), 0);
        is("not whole", p.load(1), 0);
        p.row(0, 1);
        p.rows(0);
        is("none", p.load(3), 0);
        is("no squares of none", p.load(0), 0);
        p.rows(1);
        isFound(p, "the first is missing again", p.told(0), NOTHING);
    }

    // ---- 11, 12

    private static void rowOfNoneToSixSquares() { // "BAD: bits not 0 .. 63"
        PianoHouse p = new PianoHouse();
        p.rows(1);
        for (int bits : new int[] {0, 1, 32, 62, 63}) {
            is("row(0, " + bits + ")", p.row(0, bits), 1);
            is("told", p.told(0), bits);
        }
        for (int wrong : new int[] {LEAST, -9, -2, -1, 64, 127, MOST}) {
            is("row(0, " + wrong + ")", p.row(0, wrong), BAD);
            is("row(1, " + wrong + "): BAD ahead of BEYOND", p.row(1, wrong), BAD);
        }
        is("no finding", p.finding(), 0);
        is("told still", p.told(0), 63);
    }

    private static void rowOfFirstAndLast() { // "BEYOND"
        for (int n = 0; n <= 6; n++) {
            PianoHouse p = new PianoHouse();
            p.rows(n);
            for (int j = 0; j < n; j++) {
                is("row " + j + " of " + n, p.row(j, j + 1), 1);
                is("told " + j + " of " + n, p.told(j), j + 1);
            }
            int often = 0;
            for (int wrong : new int[] {LEAST, -1, n, n + 1, 7, MOST}) {
                isFound(p, "row " + wrong + " of " + n, p.row(wrong, 0), BEYOND);
                isFound(p, "tear " + wrong + " of " + n, p.tear(wrong), BEYOND);
                isFound(p, "told " + wrong + " of " + n, p.told(wrong), BEYOND);
                often += 3;
                is("so often", p.findings(BEYOND), often);
            }
            is("squares are as told", p.load(0), new int[] {0, 1, 2, 4, 5, 7, 9}[n]);
        }
    }

    private static void tearOfWhatIsThere() { // "A ROW of THE LOAD is missing: 1. BEYOND; NOTHING: it was."
        PianoHouse p = new PianoHouse();
        p.rows(6);
        isFound(p, "never told", p.tear(0), NOTHING);
        p.row(0, 0);
        p.row(5, 63);
        is("an empty row is there", p.tear(0), 1);
        isFound(p, "no more", p.tear(0), NOTHING);
        is("the last row", p.tear(5), 1);
        isFound(p, "the last no more", p.told(5), NOTHING);
        isFound(p, "torn once", p.tear(5), NOTHING);
        is("findings", p.findings(NOTHING), 4);
        is("six rows still", p.load(3), 6);
    }

    // ---- 13

    private static PianoHouse sixRows() {
        PianoHouse p = new PianoHouse();
        Built.tellLoad(p, 0, 0, 1, 2, 3, 4, 5, 6);
        return p;
    }

    private static void isRows(String call, PianoHouse p, int... rows) {
        int[] all = new int[11 + rows.length];
        all[0] = 1;
        all[1] = 1;
        all[2] = NONE;
        for (int j = 0; j < rows.length; j++) all[3 + j] = rows[j];
        is(call + ": the rows", p.digest(), Built.digestOf(all));
    }

    private static void copyOfAllAndNone() { // "n ROWS from one on come to others from one on"
        PianoHouse p = sixRows();
        is("all to themselves", p.copy(0, 0, 6), 1);
        isRows("all to themselves", p, 1, 2, 3, 4, 5, 6);
        for (int at = 0; at <= 6; at++) {
            is("none from " + at, p.copy(at, 0, 0), 1);
            is("none to " + at, p.copy(6, at, 0), 1);
        }
        isRows("none", p, 1, 2, 3, 4, 5, 6);
        is("the last to the first", p.copy(5, 0, 1), 1);
        isRows("the last to the first", p, 6, 2, 3, 4, 5, 6);
        is("the first to the last", p.copy(1, 5, 1), 1);
        isRows("the second to the last", p, 6, 2, 3, 4, 5, 2);
        is("a half to the other", p.copy(0, 3, 3), 1);
        isRows("a half to the other", p, 6, 2, 3, 6, 2, 3);
        p.rows(0);
        is("none of none", p.copy(0, 0, 0), 1);
        isFound(p, "one of none", p.copy(0, 0, 1), BEYOND);
        isFound(p, "none behind none", p.copy(1, 0, 0), BEYOND);
        isFound(p, "to behind none", p.copy(0, 1, 0), BEYOND);
    }

    private static void copyAsIfTakenAhead() { // "as if taken ahead"
        PianoHouse up = sixRows();
        is("up by one", up.copy(0, 1, 5), 1);
        isRows("up by one", up, 1, 1, 2, 3, 4, 5);
        PianoHouse down = sixRows();
        is("down by one", down.copy(1, 0, 5), 1);
        isRows("down by one", down, 2, 3, 4, 5, 6, 6);
        PianoHouse middle = sixRows();
        is("up by two", middle.copy(0, 2, 4), 1);
        isRows("up by two", middle, 1, 2, 1, 2, 3, 4);
        is("down by two", middle.copy(2, 0, 4), 1);
        isRows("down by two", middle, 1, 2, 3, 4, 3, 4);
    }

    private static void copyAllOrNone() { // "all or none .. BEYOND: not so many there (a place, n below 0, too)"
        PianoHouse p = sixRows();
        int[][] wrong = {{-1, 0, 1}, {0, -1, 1}, {0, 0, -1}, {0, 0, 7}, {1, 0, 6}, {0, 1, 6}, {5, 0, 2}, {0, 5, 2},
            {6, 0, 1}, {0, 6, 1}, {7, 0, 0}, {0, 7, 0}, {-1, 0, 0}, {0, -1, 0}, {-1, -1, -1}, {3, 2, -1}, {-1, 0, 2},
            {LEAST, 0, 1}, {0, LEAST, 1}, {0, 0, LEAST}, {MOST, 0, 1}, {0, MOST, 1}, {0, 0, MOST}, {1, 0, MOST},
            {0, 1, MOST}, {MOST, MOST, MOST}, {LEAST, LEAST, LEAST}, {6, 0, LEAST}, {MOST, 0, LEAST}};
        int often = 0;
        for (int[] w : wrong) {
            String call = "copy(" + w[0] + ", " + w[1] + ", " + w[2] + ")";
            isFound(p, call, p.copy(w[0], w[1], w[2]), BEYOND);
            often++;
            is("so often", p.findings(BEYOND), often);
            isRows(call, p, 1, 2, 3, 4, 5, 6);
        }
        is("the last that is taken", p.copy(1, 0, 5), 1);
        p.rows(5);
        isFound(p, "not so many of five", p.copy(0, 0, 6), BEYOND);
        is("so many of five", p.copy(0, 0, 5), 1);
    }

    private static void copyOfMissingRows() { // "(missing ones, too)"
        PianoHouse p = new PianoHouse();
        p.rows(4);
        p.row(0, 7);
        is("a missing one over one that is told", p.copy(3, 0, 1), 1);
        isFound(p, "missing then", p.told(0), NOTHING);
        p.row(1, 9);
        is("missing and told", p.copy(0, 2, 2), 1);
        isRows("missing and told", p, NONE, 9, NONE, 9);
        is("all missing", p.copy(2, 1, 1), 1);
        isRows("all missing", p, NONE, NONE, NONE, 9);
    }

    // ---- 14, 15

    private static void toldRows() { // "The bits of a ROW. BEYOND; NOTHING."
        PianoHouse p = new PianoHouse();
        p.rows(2);
        p.row(0, 0);
        is("no squares, but told", p.told(0), 0);
        isFound(p, "missing", p.told(1), NOTHING);
        isFound(p, "behind the last", p.told(2), BEYOND);
        isFound(p, "ahead of the first", p.told(-1), BEYOND);
        is("NOTHING once", p.findings(NOTHING), 1);
        is("BEYOND twice", p.findings(BEYOND), 2);
        is("asking tells nothing new", p.told(0), 0);
    }

    private static void holdFromNoneToSix() { // "a point (0 .. 6 each)"
        PianoHouse p = Built.withLoad(20, 20, 1);
        for (int n = 0; n <= 6; n++) {
            int far = Math.max(n, 1 - n);
            is("hold(" + n + ", 0)", p.hold(n, 0), 1);
            is("farthest along", p.load(2), far * far + 1);
            is("hold(0, " + n + ")", p.hold(0, n), 1);
            is("farthest up", p.load(2), far * far + 1);
        }
        p.hold(6, 6);
        for (int wrong : new int[] {LEAST, -1, 7, MOST}) {
            is("hold(" + wrong + ", 0)", p.hold(wrong, 0), BAD);
            is("hold(0, " + wrong + ")", p.hold(0, wrong), BAD);
        }
        is("the hold stays", p.load(2), 72);
        p.rows(0);
        is("without rows", p.hold(3, 3), 1);
        p.rows(1);
        p.row(0, 1);
        is("rows leave the hold", p.load(2), 18);
    }

    // ---- 16

    private static void loadFromNoSquareToAll() { // "up to 6 ROWS of up to 6 SQUARES"; "0 how many SQUARES .. 3 how many ROWS"
        PianoHouse p = new PianoHouse();
        is("no row: squares", p.load(0), 0);
        is("no row: rows", p.load(3), 0);
        Built.tellLoad(p, 0, 0, 63, 63, 63, 63, 63, 63);
        is("all: squares", p.load(0), 36);
        is("all: whole", p.load(1), 1);
        is("all: rows", p.load(3), 6);
        is("all: farthest", p.load(2), 72);
        Built.tellLoad(p, 3, 3, 63, 63, 63, 63, 63, 63);
        is("all, held in the middle", p.load(2), 18);
    }

    private static void loadIsWhole() { // "no ROW from 0 up to the last one that is told lacks, and it has a SQUARE"
        PianoHouse p = new PianoHouse();
        is("no rows", p.load(1), 0);
        p.rows(6);
        is("all missing", p.load(1), 0);
        p.row(0, 0);
        is("no square", p.load(1), 0);
        p.row(0, 32);
        is("the first alone", p.load(1), 1);
        p.row(5, 1);
        is("those between lack", p.load(1), 0);
        for (int j = 1; j < 5; j++) {
            is("some between lack", p.load(1), 0);
            p.row(j, 0);
        }
        is("none lacks", p.load(1), 1);
        for (int j = 0; j < 5; j++) {
            p.tear(j);
            is("one lacks: " + j, p.load(1), 0);
            p.row(j, 0);
        }
        is("the square of the last row alone", p.load(1), 1);
        p.tear(5);
        is("no square again", p.load(1), 0);
        p.row(4, 1);
        is("the last one may lack", p.load(1), 1);
        for (int j = 0; j < 5; j++) p.row(j, 0);
        p.row(5, 0);
        is("all are told, no square", p.load(1), 0);
    }

    private static void loadReaches() { // "the square of how far its farthest corner is from the HOLD (0: no SQUARE)"
        PianoHouse p = new PianoHouse();
        is("no rows", p.load(2), 0);
        p.rows(6);
        p.row(0, 0);
        is("no square", p.load(2), 0);
        p.row(0, 1);
        is("the first square from (0, 0)", p.load(2), 2);
        p.hold(1, 1);
        is("the first square from (1, 1)", p.load(2), 2);
        p.hold(6, 6);
        is("the first square from (6, 6)", p.load(2), 72);
        p.row(5, 32);
        p.row(0, 0);
        is("the last square from (6, 6)", p.load(2), 2);
        p.hold(0, 0);
        is("the last square from (0, 0)", p.load(2), 72);
        p.hold(5, 0);
        is("the farther corner, along and up alike", p.load(2), 37);
        p.row(0, 33);
        is("the farther of two squares", p.load(2), 37);
        p.hold(6, 3);
        is("the farther of two rows", p.load(2), 45);
        p.rows(6);
        is("no square again", p.load(2), 0);
    }

    private static void loadOfWhat() { // "BAD"
        PianoHouse p = sixRows();
        int[] due = {9, 1, 45, 6};
        for (int what = 0; what < 4; what++) is("load(" + what + ")", p.load(what), due[what]);
        for (int wrong : new int[] {LEAST, -1, 4, MOST}) is("load(" + wrong + ")", p.load(wrong), BAD);
    }
}
