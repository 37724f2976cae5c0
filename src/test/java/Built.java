/** Houses, loads and texts that several tests need. */
final class Built {
    private Built() {
    }

    /** A house with a load of one row of squares, held at its corner (0, 0). */
    static PianoHouse withLoad(int w, int h, int bits) {
        PianoHouse p = new PianoHouse();
        p.house(w, h);
        p.rows(1);
        p.row(0, bits);
        return p;
    }

    /** Another load, of these rows from the first one on. */
    static void tellLoad(PianoHouse p, int hx, int hy, int... bits) {
        p.rows(bits.length);
        for (int j = 0; j < bits.length; j++) p.row(j, bits[j]);
        p.hold(hx, hy);
    }

    static int wall(PianoHouse p, boolean door, int x, int y, int w, int h) {
        int t = p.thing(door);
        p.fill(t, x, y, w, h);
        return t;
    }

    /** Other ends, both in position 0. */
    static void ends(PianoHouse p, int x, int y, int goalX, int goalY) {
        p.end(false, x, y, 0);
        p.end(true, goalX, goalY, 0);
    }

    static void drafted(PianoHouse p, String steps) {
        for (int i = 0; i < steps.length(); i++) p.draft(steps.charAt(i) - '0');
    }

    static String wayText(PianoHouse p) {
        int length = p.way();
        if (length < 0) return "none";
        StringBuilder text = new StringBuilder();
        for (int i = 0; i < length; i++) text.append(p.step(i));
        return text.toString();
    }

    static long digestOf(int... values) {
        long h = 17;
        for (int v : values) h = 31 * h + v;
        return h;
    }
}
