/** Promises 1 to 5, and 36, 37 of rows. */
public final class RowsTest {
    public static void main(String[] args) {
        newObject();
        row();
        set();
        copy();
        drop();
        Due.end("RowsTest");
    }

    private static void newObject() {
        SlackProofs x = new SlackProofs();
        int[] counts = {0, 0, 0, 0, SlackProofs.NONE, 0, 0, 0};
        for (int what = 0; what < 8; what++) {
            Due.due("new count(" + what + ")", x.count(what), counts[what]);
        }
        Due.due("count(-1)", x.count(-1), SlackProofs.BAD);
        Due.due("count(8)", x.count(8), SlackProofs.BAD);
        Due.due("new status", x.status(), 0);
        Due.due("new fault", x.fault(), 0);
        Due.due("new verdict", x.verdict(), SlackProofs.STATE);
        Due.due("new undo", x.undo(), SlackProofs.STATE);
        Due.due("new plus(-1,-1)", x.plus(-1, -1), SlackProofs.STATE);
        Due.due("new forced(256,..)", x.forced(256, 0, 9), SlackProofs.STATE);
        Due.due("new solutions(9)", x.solutions(9), SlackProofs.STATE);
        Due.due("new witness(9)", x.witness(9), SlackProofs.STATE);
        Due.due("new restore(1)", x.restore(1), SlackProofs.STATE);
        Due.due("new restore(-1)", x.restore(-1), SlackProofs.BAD);
        Due.due("new trace", x.trace(0), SlackProofs.NONE);
    }

    private static void row() {
        SlackProofs x = new SlackProofs();
        Due.due("row 40", x.row(7, 2, 40), 40);
        Due.due("row 0", x.row(0, 0, 0), 0);
        Due.due("rows", x.count(0), 2);
        Due.due("row -1", x.row(-1, 0, 1), SlackProofs.BAD);
        Due.due("row 8", x.row(8, 0, 1), SlackProofs.BAD);
        Due.due("lane -1", x.row(0, -1, 1), SlackProofs.BAD);
        Due.due("lane 3, n -1", x.row(0, 3, -1), SlackProofs.BAD);
        Due.due("n 41", x.row(0, 0, 41), SlackProofs.BAD);
        Due.due("n max", x.row(0, 0, Integer.MAX_VALUE), SlackProofs.BAD);
        Due.due("status untouched", x.status(), 0);
        Due.due("n min", x.row(7, 0, Integer.MIN_VALUE), -1000014);
        Due.due("status SIZE", x.status(), 4);
        Due.due("row 7 stays", x.set(7, 39, 5), 5);
        Due.due("status 0 again", x.status(), 0);
        Due.due("made anew", x.row(7, 2, 3), 3);
        Due.due("items are 0", x.row(6, 2, 3) + x.copy(7, 0, 6, 0, 3), 6);
        Due.due("place 3", x.set(7, 3, 1), -1000012);
    }

    private static void set() {
        SlackProofs x = new SlackProofs();
        Due.due("set BAD", x.set(8, 0, 0), SlackProofs.BAD);
        Due.due("set NULL", x.set(0, -1, 0), -1000011);
        Due.due("status NULL", x.status(), 1);
        x.row(0, 0, 2);
        x.row(1, 1, 2);
        x.row(2, 2, 2);
        Due.due("byte 127", x.set(0, 0, 127), 127);
        Due.due("byte 128", x.set(0, 0, 128), -128);
        Due.due("byte 511", x.set(0, 1, 511), -1);
        Due.due("short 32768", x.set(1, 1, 32768), -32768);
        Due.due("short 65536", x.set(1, 1, 65536), 0);
        Due.due("int min", x.set(2, 1, Integer.MIN_VALUE), Integer.MIN_VALUE);
        Due.due("place -1", x.set(0, -1, 0), -1000012);
        Due.due("status PLACE", x.status(), 2);
        Due.due("place 2", x.set(0, 2, 0), -1000012);
        Due.due("set(-1)", x.set(-1, 0, 0), SlackProofs.BAD);
        Due.due("status stays", x.status(), 2);
    }

    private static void copy() {
        SlackProofs x = Due.read("g0;");
        x.row(0, 0, 10);
        x.row(1, 0, 4);
        x.row(2, 1, 4);
        Due.due("copy BAD a", x.copy(-1, 0, 1, 0, 1), SlackProofs.BAD);
        Due.due("copy BAD b", x.copy(0, 0, 8, 0, 1), SlackProofs.BAD);
        Due.due("copy NULL", x.copy(3, 0, 2, 0, -1), -1000011);
        Due.due("copy NULL b", x.copy(2, 0, 3, 0, -1), -1000011);
        Due.due("status NULL", x.status(), 1);
        Due.due("STORE ahead of PLACE", x.copy(0, -1, 2, 9, 9), -1000015);
        Due.due("status STORE", x.status(), 5);
        Due.due("i -1", x.copy(0, -1, 1, 0, 1), -1000012);
        Due.due("status PLACE", x.status(), 2);
        Due.due("j -1", x.copy(0, 0, 1, -1, 1), -1000012);
        Due.due("n -1", x.copy(0, 0, 1, 0, -1), -1000012);
        Due.due("beyond a", x.copy(1, 2, 0, 0, 3), -1000012);
        Due.due("beyond b", x.copy(0, 0, 1, 2, 3), -1000012);
        Due.due("far beyond", x.copy(0, Integer.MAX_VALUE, 1, 0, Integer.MAX_VALUE), -1000012);
        Due.due("none at the end", x.copy(0, 10, 1, 4, 0), 0);
        Due.due("none past the end", x.copy(0, 11, 1, 4, 0), -1000012);
        Due.due("all", x.copy(1, 0, 0, 6, 4), 4);
        overlap(x);
    }

    /** A witness shows what the items are: only 0 to 17 are taken. */
    private static void overlap(SlackProofs x) {
        x.row(0, 0, 8);
        x.set(0, 0, 99);
        Due.due("overlap", x.copy(0, 0, 0, 1, 7), 7);
        x.set(0, 0, 0);
        Due.due("item 1 is 99", Due.witness(x, "g0;", 0), -1000012);
        x.set(0, 1, 0);
        Due.due("item 2 stayed 0", x.witness(0), 1);
        Due.due("no trick", x.copy(0, 0, 0, 0, 8), 8);
    }

    private static void drop() {
        SlackProofs x = new SlackProofs();
        x.row(3, 1, 7);
        Due.due("drop", x.drop(3), 7);
        Due.due("drop again", x.drop(3), -1000011);
        Due.due("status NULL", x.status(), 1);
        Due.due("drop BAD", x.drop(8), SlackProofs.BAD);
        Due.due("drop -1", x.drop(-1), SlackProofs.BAD);
        Due.due("status stays", x.status(), 1);
        Due.due("no rows", x.count(0), 0);
        x.row(3, 1, 0);
        Due.due("drop of none", x.drop(3), 0);
        Due.due("status 0", x.status(), 0);
    }
}
