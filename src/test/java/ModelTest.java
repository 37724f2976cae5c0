import java.util.ArrayList;
import java.util.List;
import java.util.Random;

/** Many runs of calls by fixed seeds, each call answered by the class and by Model alike. */
public final class ModelTest {
    private static final Due DUE = new Due("ModelTest");

    private PianoHouse house = new PianoHouse();
    private Model model = new Model();
    private final Random random;
    private final List<String> calls = new ArrayList<>();
    private int w = 1, h = 1;

    private ModelTest(long seed) {
        random = new Random(seed);
    }

    public static void main(String[] args) {
        for (int seed = 0; seed < 400 && !DUE.anyWrong(); seed++) new ModelTest(seed).run(seed, 1, 5, 120);
        for (int seed = 1000; seed < 1200 && !DUE.anyWrong(); seed++) new ModelTest(seed).run(seed, 4, 9, 100);
        for (int seed = 2000; seed < 2020 && !DUE.anyWrong(); seed++) new ModelTest(seed).run(seed, 9, 20, 60);
        for (int seed = 3000; seed < 3012 && !DUE.anyWrong(); seed++) new ModelTest(seed).run(seed, 1, 20, 25);
        DUE.end();
    }

    private void run(int seed, int least, int most, int length) {
        w = between(least, most);
        h = between(least, most);
        answer("house " + w + " " + h, house.house(w, h), model.house(w, h));
        furnish(seed);
        for (int i = 0; i < length && !DUE.anyWrong(); i++) {
            if (random.nextInt(6) == 0) change();
            else if (random.nextInt(3) == 0) place();
            else way();
            latestWay();
        }
        if (DUE.anyWrong()) System.out.println("run " + seed + ": " + String.join("; ", calls));
    }

    /** A load, walls with doors in them, a beginning and a goal. */
    private void furnish(int seed) {
        int rows = 1 + random.nextInt(seed % 9 == 0 ? 6 : 2);
        answer("rows " + rows, house.rows(rows), model.rows(rows));
        for (int j = 0; j < rows; j++) {
            int bits = 1 + random.nextInt(seed % 8 == 0 ? 63 : 3);
            if (random.nextInt(40) > 0) answer("row " + j + " " + bits, house.row(j, bits), model.row(j, bits));
        }
        int far = seed % 5 == 0 ? 7 : 3, hx = random.nextInt(far), hy = random.nextInt(far);
        answer("hold " + hx + " " + hy, house.hold(hx, hy), model.hold(hx, hy));
        for (int i = between(0, 5); i > 0; i--) wall();
        ends();
    }

    /** Another house for the same load, most often with a thing or two in it. */
    private void move() {
        w = between(1, Math.min(20, w + 2));
        h = between(1, Math.min(20, h + 2));
        answer("house " + w + " " + h, house.house(w, h), model.house(w, h));
        for (int i = between(0, 2); i > 0; i--) wall();
        ends();
    }

    private void wall() {
        boolean door = random.nextBoolean();
        int t = model.thing(door);
        answer("thing " + door, house.thing(door), t);
        int x = random.nextInt(w), y = random.nextInt(h);
        boolean along = random.nextBoolean();
        int a = along ? between(1, Math.max(1, w / 2)) : 1, b = along ? 1 : between(1, Math.max(1, h / 2));
        answer("fill " + t + " " + x + " " + y + " " + a + " " + b, house.fill(t, x, y, a, b), model.fill(t, x, y, a, b));
    }

    private void ends() {
        for (int i = 0; i < 2; i++) {
            boolean goal = i == 1;
            int x = 0, y = 0, q = 0;
            for (int k = 0; k < 60; k++) {
                x = random.nextInt(w + 1);
                y = random.nextInt(h + 1);
                q = random.nextInt(4);
                if (model.free(x, y, q) == 1) break;
            }
            answer("end " + goal + " " + x + " " + y + " " + q, house.end(goal, x, y, q), model.end(goal, x, y, q));
        }
    }

    private void change() {
        int a = near(11), b = near(w), c = near(h), d = between(0, 6), e = between(0, 4);
        boolean is = random.nextBoolean();
        String args = " " + a + " " + b + " " + c + " " + d + " " + e + " " + is;
        switch (random.nextInt(20)) {
            case 0: answer("thing " + is, house.thing(is), model.thing(is)); break;
            case 1: answer("fill" + args, house.fill(a, b, c, d, e), model.fill(a, b, c, d, e)); break;
            case 2, 3, 4: answer("clear" + args, house.clear(a, b, c), model.clear(a, b, c)); break;
            case 5, 6, 7: answer("out" + args, house.out(a, is), model.out(a, is)); break;
            case 8, 9, 10: answer("undo", house.undo(), model.undo()); break;
            case 11: answer("row" + args, house.row(e, a), model.row(e, a)); break;
            case 12: answer("tear" + args, house.tear(d), model.tear(d)); mend(d); break;
            case 13, 14: answer("copy" + args, house.copy(d - 1, e, e - 1), model.copy(d - 1, e, e - 1)); break;
            case 15: answer("hold" + args, house.hold(d, e), model.hold(d, e)); break;
            case 16: if (random.nextInt(3) == 0) load(d - 1); break;
            case 17: wall(); break;
            case 18: if (random.nextInt(4) == 0) move(); break;
            default: ends();
        }
        answer("digest", house.digest(), model.digest());
        for (int i = 0; i < 6; i++) answer("load " + i, house.load(i), model.load(i));
        for (int i = 0; i < 6; i++) answer("findings " + i, house.findings(i), model.findings(i));
        for (int i = 0; i < 6; i++) answer("many " + i, house.many(i), model.many(i));
        answer("finding", house.finding(), model.finding());
    }

    /** A row that was torn out is told again, most often: else all places are refused. */
    private void mend(int j) {
        int bits = random.nextInt(4);
        if (random.nextInt(4) > 0) answer("row " + j + " " + bits, house.row(j, bits), model.row(j, bits));
    }

    /** Tells rows of a load that is new, most often from the first one on. */
    private void load(int rows) {
        answer("rows " + rows, house.rows(rows), model.rows(rows));
        for (int j = 0; j < 3; j++) {
            int bits = random.nextInt(4);
            if (random.nextInt(30) > 0) answer("row " + j + " " + bits, house.row(j, bits), model.row(j, bits));
        }
        for (int j = -1; j < 7; j++) answer("told " + j, house.told(j), model.told(j));
    }

    private void place() {
        int x = near(w), y = near(h), q = near(3), k = near(4);
        String args = " " + x + " " + y + " " + q + " " + k;
        answer("open" + args, house.open(x, y), model.open(x, y));
        answer("on" + args, house.on(x, y), model.on(x, y));
        answer("free" + args, house.free(x, y, q), model.free(x, y, q));
        answer("turning" + args, house.turning(x, y), model.turning(x, y));
        answer("kind" + args, house.kind(x, y, q), model.kind(x, y, q));
        answer("steps" + args, house.steps(x, y, q, k), model.steps(x, y, q, k));
        answer("pieces" + args, house.pieces(q), model.pieces(q));
        answer("piece" + args, house.piece(x, y, q), model.piece(x, y, q));
        int piece = near(3), what = near(2);
        answer("area " + q + " " + piece + " " + what, house.area(q, piece, what), model.area(q, piece, what));
        answer("slide" + args, house.slide(x, y, q, k), model.slide(x, y, q, k));
    }

    /** What is told of the latest way, whatever was called since. */
    private void latestWay() {
        for (int i = -1; i < 4; i++) answer("step " + i, house.step(i), model.step(i));
        for (int i = -1; i < 3; i++) answer("count " + i, house.count(i), model.count(i));
    }

    private void way() {
        switch (random.nextInt(7)) {
            case 0, 1:
                answer("way", house.way(), model.way());
                for (int i = -1; i <= Math.max(3, model.way()); i++) answer("step " + i, house.step(i), model.step(i));
                for (int i = -1; i < 3; i++) answer("count " + i, house.count(i), model.count(i));
                break;
            case 2: answer("reached", house.reached(), model.reached()); break;
            case 3: {
                int x = near(w), y = near(h), q = near(3);
                answer("reaches " + x + " " + y + " " + q, house.reaches(x, y, q), model.reaches(x, y, q));
                break;
            }
            case 4:
                answer("held", house.held(), model.held());
                answer("doors", house.doors(), model.doors());
                break;
            case 5: {
                int most = random.nextInt(12) - 1;
                answer("narrow " + most, house.narrow(most), model.narrow(most));
                break;
            }
            default: draft();
        }
    }

    /** A draft: the way itself, or the way with one step put wrong, or any steps. */
    private void draft() {
        int length = Math.min(house.way(), 200), wrong = random.nextInt(25);
        answer("way", length, Math.min(model.way(), 200));
        for (int i = 0; i < length; i++) {
            int step = i == wrong ? random.nextInt(6) : model.step(i);
            answer("draft " + step, house.draft(step), model.draft(step));
        }
        for (int i = random.nextInt(4) - 1; i >= 0; i--) {
            int step = near(5);
            answer("draft " + step, house.draft(step), model.draft(step));
        }
        answer("many 4", house.many(4), model.many(4));
        answer("check", house.check(), model.check());
        answer("many 4", house.many(4), model.many(4));
    }

    /** 0 to most, now and then one beside it. */
    private int near(int most) {
        return random.nextInt(12) == 0 ? (random.nextBoolean() ? -1 : most + 1) : random.nextInt(most + 1);
    }

    private int between(int least, int most) {
        return least + random.nextInt(most - least + 1);
    }

    private void answer(String call, long got, long want) {
        calls.add(call);
        DUE.is(call, got, want);
    }
}
