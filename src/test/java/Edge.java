/** What the edges share: answers told by their promise, and states that lie at an edge. */
final class Edge {
    static final int NONE = -1000000, BAD = -1000001, STATE = -1000002, FULL = -1000003;
    static final int NULL = -1000011, PLACE = -1000012, KIND = -1000013, SIZE = -1000014,
            STORE = -1000015, OVER = -1000016, FAULT = -1000100;
    static final int MIN = Integer.MIN_VALUE, MAX = Integer.MAX_VALUE;

    /** Numbers that no count of the document reaches. */
    static final int[] FAR = {MIN, MIN + 1, -65536, -256, -2, -1, 256, 257, 65536, 1 << 30, MAX - 1, MAX};

    private static final int PROMISES = 37;
    private static final int[] told = new int[PROMISES + 1];

    private Edge() { }

    static void edge(int promise, String sentence, long got, long want) {
        told[promise]++;
        Due.due("promise " + promise + ", " + sentence, got, want);
    }

    static void edgeTold(int promise, SlackProofs x, int a, String want) {
        told[promise]++;
        Due.dueTold(x, a, want);
    }

    static void everyPromiseHasEdges() {
        for (int promise = 1; promise <= PROMISES; promise++) {
            Due.dueTrue("promise " + promise + " has edges", told[promise] > 0);
        }
    }

    /** Clause 2 has a SUM beyond a long; no other has. */
    static SlackProofs beyond() {
        SlackProofs x = Due.read("p0,2;n1,2;g1;m0,1;");
        x.times(0, MAX);
        x.times(1, MAX);
        return x;
    }

    /** 30 NUMBERS are used; clause 0 is 9x0 4~x1 >= 5, the others are axioms of x0. */
    static SlackProofs full() {
        SlackProofs x = Due.read("p0,9;n1,4;g5;m0,1;");
        fill(x);
        return x;
    }

    static SlackProofs fullAndBeyond() {
        SlackProofs x = beyond();
        fill(x);
        return x;
    }

    static void fill(SlackProofs x) {
        for (int i = x.count(2); i < 30; i++) {
            x.axiom(0, 1);
        }
    }

    /** Clauses 0 to 4: given, axiom, bound, derived, claimed. */
    static SlackProofs ofAllKinds() {
        SlackProofs x = Due.read("p3,1;p4,1;g1;m2,3;m3,1;");
        x.axiom(5, 0);
        x.solution(4 + 8);
        x.plus(0, 1);
        Due.claim(x, "p3,1;p4,1;p6,2;g1;");
        return x;
    }

    /** 49 times these factors is the greatest long. */
    static int timesToTheGreatest(SlackProofs x, int a) {
        return x.times(x.times(x.times(a, 73 * 127 * 337), 92737), 649657);
    }

    /** 2 to the 62, times what a has. */
    static int timesTwoTo62(SlackProofs x, int a) {
        return x.times(x.times(x.times(a, 1 << 30), 1 << 30), 4);
    }

    static void items(SlackProofs x, int row, int... items) {
        for (int i = 0; i < items.length; i++) {
            x.set(row, i, items[i]);
        }
    }

    /** A ROW that puts each VARIABLE for itself. */
    static void putNothing(SlackProofs x, int row) {
        x.row(row, 2, 8);
        items(x, row, 2, 3, 4, 5, 6, 7, 8, 9);
    }

    static String times(String text, int n) {
        return text.repeat(n);
    }
}
