/** Edges of promises 1 to 5. Items cannot be read; a WITNESS tells them: 0 to 17 are taken, else PLACE. */
final class RowEdges {
    private RowEdges() { }

    static void run() {
        newObjectHasNothing();
        newObjectRefuses();
        newObjectsShareNothing();
        rowNumbers();
        rowLanes();
        rowSizes();
        rowInPlaceOfAnother();
        setPlaces();
        setLowestBits();
        setKeepsWhatItAnswers();
        copyRefusals();
        copyPlaces();
        copyAsTheyWereAhead();
        dropped();
    }

    private static void newObjectHasNothing() {
        SlackProofs x = new SlackProofs();
        int[] counts = {0, 0, 0, 0, Edge.NONE, 0, 0, 0};
        for (int what = 0; what < 8; what++) {
            Edge.edge(1, "count(" + what + ")", x.count(what), counts[what]);
        }
        for (int v = 0; v < 8; v++) {
            Edge.edge(1, "no price of " + v, x.price(v), 0);
            Edge.edge(1, "row " + v + " is missing", x.drop(v), Edge.NULL);
        }
        x = new SlackProofs();
        for (int i = -1; i < 17; i++) {
            Edge.edge(1, "the trace is empty at " + i, x.trace(i), Edge.NONE);
        }
        Edge.edge(1, "no fault", x.fault(), 0);
        Edge.edge(1, "no finding", x.status(), 0);
    }

    /** STATE: no FORMULA, ahead of BAD for the steps; other calls have no clause to be asked of. */
    private static void newObjectRefuses() {
        SlackProofs x = new SlackProofs();
        for (int a : new int[] {-1, 0, 30, Edge.MIN, Edge.MAX}) {
            Edge.edge(1, "plus", x.plus(a, a), Edge.STATE);
            Edge.edge(1, "times", x.times(a, a), Edge.STATE);
            Edge.edge(1, "split", x.split(a, a), Edge.STATE);
            Edge.edge(1, "saturate", x.saturate(a), Edge.STATE);
            Edge.edge(1, "weaken", x.weaken(a, a), Edge.STATE);
            Edge.edge(1, "axiom", x.axiom(a, a), Edge.STATE);
            Edge.edge(1, "witness", x.witness(a), Edge.STATE);
            Edge.edge(1, "solution", x.solution(a), Edge.STATE);
            Edge.edge(1, "remove", x.remove(a), Edge.STATE);
            Edge.edge(1, "forced", x.forced(a, a, a), Edge.STATE);
            Edge.edge(1, "solutions", x.solutions(a), Edge.STATE);
            Edge.edge(1, "degree", x.degree(a), Edge.BAD);
            Edge.edge(1, "coefficient", x.coefficient(a, 0), Edge.BAD);
            Edge.edge(1, "sum", x.sum(a), Edge.BAD);
            Edge.edge(1, "slack", x.slack(a, 0, 0), Edge.BAD);
            Edge.edge(1, "holds", x.holds(a), Edge.BAD);
            Edge.edge(1, "follows", x.follows(a), Edge.BAD);
            Edge.edge(1, "kind", x.kind(a), Edge.BAD);
            Edge.edge(1, "as", x.as(a, 0), Edge.BAD);
            Edge.edge(1, "ask", x.ask(a, 0), Edge.BAD);
        }
        Edge.edge(1, "claim", x.claim(), Edge.STATE);
        Edge.edge(1, "undo", x.undo(), Edge.STATE);
        Edge.edge(1, "verdict", x.verdict(), Edge.STATE);
        Edge.edge(1, "image", x.image(0), Edge.STATE);
        Edge.edge(1, "restore", x.restore(0), Edge.STATE);
        Edge.edge(1, "all this is no finding", x.status(), 0);
        Edge.edge(1, "an empty tape is no formula", x.formula(), Edge.FAULT);
    }

    private static void newObjectsShareNothing() {
        SlackProofs x = Edge.ofAllKinds();
        x.row(0, 0, 8);
        x.image(0);
        x.ask(0, 0);
        x.feed('z');
        x.as(0, 5);
        SlackProofs y = new SlackProofs();
        Edge.edge(1, "rows of another", y.count(0), 0);
        Edge.edge(1, "clauses of another", y.count(1), 0);
        Edge.edge(1, "best of another", y.count(4), Edge.NONE);
        Edge.edge(1, "acts of another", y.count(6), 0);
        Edge.edge(1, "tape of another", y.count(7), 0);
        Edge.edge(1, "image of another", y.restore(0), Edge.STATE);
        Edge.edge(1, "trace of another", y.trace(0), Edge.NONE);
        Edge.edge(1, "status of another", y.status(), 0);
        Due.feed(y, "g0;");
        y.formula();
        Edge.edge(1, "what was first stays", x.count(1), 5);
        Edge.edge(1, "its tape, too", x.count(7), 1);
    }

    private static void rowNumbers() {
        SlackProofs x = new SlackProofs();
        for (int row : new int[] {-1, 8, 9, Edge.MIN, Edge.MAX}) {
            Edge.edge(2, "BAD: row " + row, x.row(row, 0, 1), Edge.BAD);
            Edge.edge(2, "BAD ahead of SIZE: row " + row, x.row(row, 0, -1), Edge.BAD);
        }
        Edge.edge(2, "none was made", x.count(0), 0);
        for (int row = 0; row < 8; row++) {
            Edge.edge(2, "row " + row, x.row(row, row % 3, row), row);
            Edge.edge(2, "rows", x.count(0), row + 1);
        }
    }

    private static void rowLanes() {
        SlackProofs x = new SlackProofs();
        for (int lane : new int[] {-1, 3, 4, Edge.MIN, Edge.MAX}) {
            Edge.edge(2, "BAD: lane " + lane, x.row(0, lane, 1), Edge.BAD);
            Edge.edge(2, "BAD ahead of SIZE: lane " + lane, x.row(0, lane, -1), Edge.BAD);
        }
        int[] kept = {0x78, 0x5678, 0x12345678};
        for (int lane = 0; lane < 3; lane++) {
            Edge.edge(2, "lane " + lane, x.row(0, lane, 1), 1);
            Edge.edge(2, "as wide as lane " + lane, x.set(0, 0, 0x12345678), kept[lane]);
        }
    }

    private static void rowSizes() {
        SlackProofs x = new SlackProofs();
        for (int lane = 0; lane < 3; lane++) {
            Edge.edge(2, "40 items", x.row(0, lane, 40), 40);
            Edge.edge(2, "the last of 40", x.set(0, 39, 1), 1);
            Edge.edge(2, "41 items", x.row(0, lane, 41), Edge.BAD);
            Edge.edge(2, "the most an int holds", x.row(0, lane, Edge.MAX), Edge.BAD);
            Edge.edge(2, "no items", x.row(1, lane, 0), 0);
            Edge.edge(2, "a row of none is not missing", x.set(1, 0, 0), Edge.PLACE);
            for (int n : new int[] {-1, -2, Edge.MIN}) {
                x.set(0, 0, 0);
                Edge.edge(2, "SIZE: " + n, x.row(0, lane, n), Edge.SIZE);
                Edge.edge(2, "status SIZE", x.status(), 4);
            }
        }
        Edge.edge(2, "SIZE makes none", x.row(2, 0, -1) + x.count(0), Edge.SIZE + 2);
        Edge.edge(2, "what was refused did not change the row", x.drop(0), 40);
        Edge.edge(2, "status 0", x.status(), 0);
    }

    private static void rowInPlaceOfAnother() {
        SlackProofs x = Due.read("g0;");
        x.row(0, 0, 40);
        for (int i = 0; i < 40; i++) {
            x.set(0, i, 99);
        }
        Edge.edge(2, "99 is no witness", Due.witness(x, "n0,1;g1;", 0), Edge.PLACE);
        Edge.edge(2, "anew", x.row(0, 2, 8), 8);
        Edge.edge(2, "its items are 0", x.witness(0), 1);
        Edge.edge(2, "it has no more", x.set(0, 8, 0), Edge.PLACE);
        Edge.edge(2, "it has the new lane", x.set(0, 0, 300), 300);
        x.row(0, 0, 40);
        x.copy(0, 32, 0, 0, 8);
        Edge.edge(2, "the last items are 0", Due.witness(x, "n0,1;g1;", 0), 2);
        Edge.edge(2, "one row yet", x.count(0), 1);
    }

    private static void setPlaces() {
        SlackProofs x = new SlackProofs();
        for (int row : new int[] {-1, 8, Edge.MIN, Edge.MAX}) {
            Edge.edge(3, "BAD: row " + row, x.set(row, 0, 0), Edge.BAD);
        }
        for (int row = 0; row < 8; row++) {
            Edge.edge(3, "NULL ahead of PLACE", x.set(row, -1, 0), Edge.NULL);
        }
        Edge.edge(3, "status NULL", x.status(), 1);
        for (int n : new int[] {1, 2, 39, 40}) {
            x.row(0, 1, n);
            Edge.edge(3, "the first", x.set(0, 0, 7), 7);
            Edge.edge(3, "status 0", x.status(), 0);
            Edge.edge(3, "the last", x.set(0, n - 1, 8), 8);
            for (int i : new int[] {n, n + 1, -1, Edge.MIN, Edge.MAX}) {
                x.set(0, 0, 0);
                Edge.edge(3, "PLACE: " + i + " of " + n, x.set(0, i, 0), Edge.PLACE);
                Edge.edge(3, "status PLACE", x.status(), 2);
            }
        }
        x.row(0, 1, 0);
        Edge.edge(3, "no place at all", x.set(0, 0, 0), Edge.PLACE);
        Edge.edge(3, "BAD leaves the status", x.set(8, 0, 0) + x.status(), Edge.BAD + 2);
    }

    private static void setLowestBits() {
        SlackProofs x = new SlackProofs();
        int[] some = {0, 1, -1, 127, 128, 129, 255, 256, 257, -127, -128, -129, -256, 32767, 32768, 32769,
            65535, 65536, 65537, -32767, -32768, -32769, -65536, Edge.MIN, Edge.MIN + 1, Edge.MAX - 1, Edge.MAX};
        for (int lane = 0; lane < 3; lane++) {
            x.row(lane, lane, 1);
            for (int v : some) {
                int want = lane == 0 ? (byte) v : lane == 1 ? (short) v : v;
                Edge.edge(3, "lane " + lane + ", " + v, x.set(lane, 0, v), want);
            }
        }
        Edge.edge(3, "127 is a byte", x.set(0, 0, 127), 127);
        Edge.edge(3, "128 is none", x.set(0, 0, 128), -128);
        Edge.edge(3, "-128 is a byte", x.set(0, 0, -128), -128);
        Edge.edge(3, "-129 is none", x.set(0, 0, -129), 127);
        Edge.edge(3, "32767 is a short", x.set(1, 0, 32767), 32767);
        Edge.edge(3, "32768 is none", x.set(1, 0, 32768), -32768);
        Edge.edge(3, "-32768 is a short", x.set(1, 0, -32768), -32768);
        Edge.edge(3, "-32769 is none", x.set(1, 0, -32769), 32767);
        Edge.edge(3, "an item as good as a refusal", x.set(2, 0, Edge.BAD), Edge.BAD);
        x.row(2, 2, -1);
        x.set(2, 0, Edge.BAD);
        Edge.edge(3, "is none for the status", x.status(), 0);
    }

    /** 256 more is the same byte, 65536 more the same short, but another int. */
    private static void setKeepsWhatItAnswers() {
        SlackProofs x = Due.read("g0;");
        int[] more = {256, 65536, 65536};
        int[] want = {1, 2, Edge.PLACE};
        for (int lane = 0; lane < 3; lane++) {
            x.row(lane, lane, 8);
            Edge.items(x, lane, 1, 3, 4, 5, 6, 7, 8, 9);
            x.set(lane, 0, 1 + more[lane]);
            Edge.edge(3, "1 and " + more[lane] + " in lane " + lane, Due.witness(x, "p0,1;g1;", lane), want[lane]);
        }
        x.row(3, 1, 8);
        x.set(3, 0, 256);
        Edge.edge(3, "a short keeps 256", x.witness(3), Edge.PLACE);
    }

    private static void copyRefusals() {
        SlackProofs x = new SlackProofs();
        x.row(0, 0, 4);
        x.row(1, 1, 4);
        x.row(2, 2, 4);
        for (int row : new int[] {-1, 8, Edge.MIN, Edge.MAX}) {
            Edge.edge(4, "BAD: from " + row, x.copy(row, 0, 0, 0, 0), Edge.BAD);
            Edge.edge(4, "BAD: to " + row, x.copy(0, 0, row, 0, 0), Edge.BAD);
            Edge.edge(4, "BAD ahead of NULL", x.copy(7, 0, row, 0, 0), Edge.BAD);
            Edge.edge(4, "BAD ahead of PLACE", x.copy(row, -1, 0, 0, 0), Edge.BAD);
        }
        Edge.edge(4, "BAD is no finding", x.status(), 0);
        Edge.edge(4, "NULL: from", x.copy(3, 0, 0, 0, 0), Edge.NULL);
        Edge.edge(4, "status NULL", x.status(), 1);
        Edge.edge(4, "NULL: to", x.copy(0, 0, 3, 0, 0), Edge.NULL);
        Edge.edge(4, "NULL: both, the same", x.copy(3, 0, 3, 0, 0), Edge.NULL);
        Edge.edge(4, "NULL ahead of PLACE", x.copy(0, -1, 3, 0, -1), Edge.NULL);
        for (int a = 0; a < 3; a++) {
            for (int b = 0; b < 3; b++) {
                Edge.edge(4, "STORE unless of one lane", x.copy(a, 0, b, 0, 4), a == b ? 4 : Edge.STORE);
                Edge.edge(4, "status STORE", x.status(), a == b ? 0 : 5);
                Edge.edge(4, "STORE ahead of PLACE", x.copy(a, -1, b, 5, 9), a == b ? Edge.PLACE : Edge.STORE);
            }
        }
        Edge.edge(4, "STORE of nothing", x.copy(0, 0, 1, 0, 0), Edge.STORE);
    }

    private static void copyPlaces() {
        SlackProofs x = new SlackProofs();
        x.row(0, 2, 40);
        x.row(1, 2, 5);
        x.row(2, 2, 0);
        Edge.edge(4, "as many as there are", x.copy(1, 0, 0, 35, 5), 5);
        Edge.edge(4, "one more in a", x.copy(1, 0, 0, 0, 6), Edge.PLACE);
        Edge.edge(4, "one more in b", x.copy(0, 0, 1, 0, 6), Edge.PLACE);
        Edge.edge(4, "beyond the end of a", x.copy(1, 1, 0, 0, 5), Edge.PLACE);
        Edge.edge(4, "beyond the end of b", x.copy(1, 0, 0, 36, 5), Edge.PLACE);
        Edge.edge(4, "status PLACE", x.status(), 2);
        Edge.edge(4, "none at both ends", x.copy(1, 5, 0, 40, 0), 0);
        Edge.edge(4, "status 0", x.status(), 0);
        Edge.edge(4, "none behind the end of a", x.copy(1, 6, 0, 40, 0), Edge.PLACE);
        Edge.edge(4, "none behind the end of b", x.copy(1, 5, 0, 41, 0), Edge.PLACE);
        Edge.edge(4, "none of none", x.copy(2, 0, 2, 0, 0), 0);
        Edge.edge(4, "one of none", x.copy(2, 0, 2, 0, 1), Edge.PLACE);
        Edge.edge(4, "all 40 to themselves", x.copy(0, 0, 0, 0, 40), 40);
        Edge.edge(4, "41", x.copy(0, 0, 0, 0, 41), Edge.PLACE);
        for (int far : new int[] {-1, Edge.MIN, Edge.MAX, Edge.MAX - 3}) {
            Edge.edge(4, "i " + far, x.copy(0, far, 1, 0, 1), Edge.PLACE);
            Edge.edge(4, "j " + far, x.copy(0, 0, 1, far, 1), Edge.PLACE);
            Edge.edge(4, "n " + far, x.copy(0, 0, 1, 0, far), Edge.PLACE);
            Edge.edge(4, "i, n wrapped around, " + far, x.copy(0, 5, 1, 0, far), Edge.PLACE);
            Edge.edge(4, "j, n wrapped around, " + far, x.copy(0, 0, 1, 5, far), Edge.PLACE);
            Edge.edge(4, "all of them, " + far, x.copy(0, far, 1, far, far), Edge.PLACE);
            Edge.edge(4, "none at i " + far, x.copy(0, far, 1, 0, 0), Edge.PLACE);
            Edge.edge(4, "none at j " + far, x.copy(0, 0, 1, far, 0), Edge.PLACE);
        }
    }

    /** Row 0 is 1 for x0, what stands for x1 tells whether the copy went on from copied items. */
    private static void copyAsTheyWereAhead() {
        SlackProofs x = Due.read("g0;");
        x.row(0, 0, 9);
        Edge.items(x, 0, 1, 0, 0, 0, 0, 0, 0, 0, 0);
        Edge.edge(4, "forward over themselves", x.copy(0, 0, 0, 1, 8), 8);
        Edge.edge(4, "x1 is 1", Due.witness(x, "p1,1;g1;", 0), 1);
        Edge.edge(4, "x2 is not", Due.witness(x, "p2,1;g1;", 0), Edge.NONE);
        Edge.edge(4, "x0 stays", Due.witness(x, "p0,1;g1;", 0), 2);
        SlackProofs y = Due.read("g0;");
        y.row(0, 0, 9);
        Edge.items(y, 0, 0, 0, 0, 0, 0, 0, 0, 0, 1);
        Edge.edge(4, "backward over themselves", y.copy(0, 1, 0, 0, 8), 8);
        Edge.edge(4, "x7 is 1", Due.witness(y, "p7,1;g1;", 0), 1);
        Edge.edge(4, "x6 is not", Due.witness(y, "p6,1;g1;", 0), Edge.NONE);
        SlackProofs z = Due.read("g0;");
        z.row(0, 1, 8);
        z.row(1, 1, 8);
        Edge.items(z, 0, 99, 1, 1, 1, 99, 99, 99, 99);
        Edge.edge(4, "n items alone", z.copy(0, 1, 1, 3, 2), 2);
        Edge.edge(4, "from j on", Due.witness(z, "p3,1;p0,1;g1;", 1), 1);
        Edge.edge(4, "the first stays 0", Due.witness(z, "p2,1;g1;", 1), Edge.NONE);
        Edge.edge(4, "the next stays 0", Due.witness(z, "p5,1;g1;", 1), Edge.NONE);
        Edge.edge(4, "the last came", Due.witness(z, "p4,1;g1;", 1), 2);
        Edge.edge(4, "what is copied stays", z.witness(0), Edge.PLACE);
    }

    private static void dropped() {
        SlackProofs x = Due.read("g0;");
        for (int row : new int[] {-1, 8, Edge.MIN, Edge.MAX}) {
            Edge.edge(5, "BAD: row " + row, x.drop(row), Edge.BAD);
        }
        for (int row = 0; row < 8; row++) {
            Edge.edge(5, "NULL: row " + row, x.drop(row), Edge.NULL);
        }
        Edge.edge(5, "status NULL", x.status(), 1);
        x.row(0, 0, 0);
        x.row(7, 2, 40);
        Edge.edge(5, "a row of none", x.drop(0), 0);
        Edge.edge(5, "status 0", x.status(), 0);
        Edge.edge(5, "one is left", x.count(0), 1);
        Edge.edge(5, "a row of 40", x.drop(7), 40);
        Edge.edge(5, "it is missing: drop", x.drop(7), Edge.NULL);
        Edge.edge(5, "it is missing: set", x.set(7, 0, 0), Edge.NULL);
        Edge.edge(5, "it is missing: copy", x.copy(7, 0, 7, 0, 0), Edge.NULL);
        Edge.edge(5, "it is missing: witness", Due.witness(x, "g0;", 7), Edge.NULL);
        Edge.edge(5, "it can be made again", x.row(7, 0, 8), 8);
        Edge.edge(5, "with items 0", x.witness(7), 1);
        Edge.edge(5, "BAD leaves the status", x.row(7, 0, -1) + x.drop(8) + x.status(), Edge.SIZE + Edge.BAD + 4);
    }
}
