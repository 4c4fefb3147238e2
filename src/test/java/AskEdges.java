/** Edges of promises 32 to 37: kinds, asks, the trace, counts, the status. */
final class AskEdges {
    private AskEdges() { }

    static void run() {
        kinds();
        asKinds();
        askRefusals();
        askVariables();
        askGreatestNumbers();
        traceEnds();
        traceIsEmptyAhead();
        countRefusals();
        countEach();
        statusOfCalls();
        statusStays();
    }

    private static void kinds() {
        SlackProofs x = Edge.ofAllKinds();
        for (int a = 0; a < 5; a++) {
            Edge.edge(32, "of " + a, x.kind(a), a + 1);
        }
        x.image(0);
        x.restore(0);
        for (int a = 0; a < 5; a++) {
            Edge.edge(32, "restored, of " + a, x.kind(a), a + 1);
        }
        x.undo();
        x.axiom(0, 0);
        x.plus(1, 1);
        x.split(2, 1);
        x.saturate(4);
        Edge.edge(32, "plus of axioms is derived", x.kind(6), 4);
        Edge.edge(32, "a part of a bound is derived", x.kind(7), 4);
        Edge.edge(32, "a claimed one, saturated, is derived", x.kind(8), 4);
        SlackProofs y = Due.read("g0;");
        y.row(0, 2, 8);
        Edge.edge(32, "by a witness it is claimed", y.kind(Due.witness(y, "n0,1;g1;", 0)), 5);
    }

    private static void asKinds() {
        SlackProofs x = Edge.ofAllKinds();
        int[][] is = {{0, 1}, {0, 1, 2}, {0, 1, 3}, {0, 4}, {0, 4, 5}};
        for (int a = 0; a < 5; a++) {
            for (int kind = 0; kind < 6; kind++) {
                boolean isOne = false;
                for (int one : is[a]) {
                    isOne |= one == kind;
                }
                x.as(a, isOne ? otherKind(a) : 0);
                Edge.edge(33, a + " as " + kind, x.as(a, kind), isOne ? a : Edge.KIND);
                Edge.edge(33, "status", x.status(), isOne ? 0 : 3);
            }
        }
        for (int kind : new int[] {-1, 6, 7, Edge.MIN, Edge.MAX}) {
            x.as(0, 5);
            Edge.edge(33, "BAD: kind " + kind, x.as(0, kind), Edge.BAD);
            Edge.edge(33, "BAD leaves the status", x.status(), 3);
        }
        Edge.edge(33, "BAD ahead of KIND", x.as(5, 5), Edge.BAD);
    }

    /** One that none of the clause's kinds is. */
    private static int otherKind(int a) {
        return a < 3 ? 5 : 1;
    }

    private static void dueAsk(SlackProofs x, int a, int what, int want, int... trace) {
        Edge.edge(34, "ask(" + a + "," + what + ")", x.ask(a, what), want);
        for (int i = 0; i < trace.length; i++) {
            Edge.edge(35, "number " + i + " of ask(" + a + "," + what + ")", x.trace(i), trace[i]);
        }
        for (int i = trace.length; i < 18; i++) {
            Edge.edge(35, "NONE behind it", x.trace(i), Edge.NONE);
        }
    }

    private static void askRefusals() {
        SlackProofs x = Edge.ofAllKinds();
        x.as(0, 5);
        for (int what : new int[] {-1, 2, 3, Edge.MIN, Edge.MAX}) {
            for (int a = 0; a < 5; a++) {
                Edge.edge(34, "BAD: what " + what, x.ask(a, what), Edge.BAD);
            }
        }
        Edge.edge(34, "it is no call that status tells of", x.status(), 3);
        x.remove(4);
        Edge.edge(34, "BAD: removed", x.ask(4, 0), Edge.BAD);
    }

    /** None, one, all eight; the least of them. */
    private static void askVariables() {
        SlackProofs x = Due.read("g0;p7,1;g0;p0,1;n1,1;p2,1;n3,1;p4,1;n5,1;p6,1;n7,1;g0;");
        dueAsk(x, 0, 0, 0 + (0 + 8), 11, 10, 21, 20);
        dueAsk(x, 0, 1, 0 + 8, 21, 20);
        dueAsk(x, 1, 0, 1 + (1 + 7), 11, 10, 21, 20);
        dueAsk(x, 1, 1, 1 + 7, 21, 20);
        dueAsk(x, 2, 0, 8 + (2 + 0), 11, 10, 21, 20);
        dueAsk(x, 2, 1, 2 + 0, 21, 20);
        x.saturate(0);
        dueAsk(x, 3, 0, 0 - 100, 13, 10);
        dueAsk(x, 3, 1, 3 + 100, 23, 20, 13, 10);
        x.times(2, 1);
        dueAsk(x, 4, 0, 8 - 100, 13, 10);
        Due.claim(x, "g0;");
        dueAsk(x, 5, 0, -200, 14, 13, 10);
        dueAsk(x, 5, 1, 5 + 200, 23, 20, 14, 13, 10);
        x.axiom(0, 0);
        dueAsk(x, 6, 0, -(1 + 2 * 6), 12, 11, 10, 24, 21, 20);
        dueAsk(x, 6, 1, 2 * 6, 24, 21, 20);
        x.axiom(7, 1);
        dueAsk(x, 7, 0, -(1 + 2 * 14), 12, 11, 10, 24, 21, 20);
    }

    private static void askGreatestNumbers() {
        SlackProofs x = Edge.full();
        dueAsk(x, 29, 1, 2 * 29, 24, 21, 20);
        dueAsk(x, 29, 0, -(1 + 2 * 29), 12, 11, 10, 24, 21, 20);
        SlackProofs y = Due.read("g0;m0,1;");
        for (int i = 1; i < 29; i++) {
            y.axiom(0, 1);
        }
        y.solution(1);
        dueAsk(y, 29, 0, 1 + 29 + 0 - 1000, 11, 10, 22, 21, 20);
        dueAsk(y, 29, 1, 29 + 0 - 1000, 22, 21, 20);
    }

    private static void traceEnds() {
        SlackProofs x = Edge.ofAllKinds();
        x.ask(1, 0);
        for (int i : new int[] {-1, 6, 15, 16, 17, Edge.MIN, Edge.MAX}) {
            Edge.edge(35, "NONE: " + i, x.trace(i), Edge.NONE);
        }
        Edge.edge(35, "the first", x.trace(0), 12);
        Edge.edge(35, "the last", x.trace(5), 20);
    }

    private static void traceIsEmptyAhead() {
        SlackProofs x = Edge.ofAllKinds();
        dueAsk(x, 1, 0, -(1 + 2 * 6), 12, 11, 10, 24, 21, 20);
        dueAsk(x, 0, 1, 3, 21, 20);
        for (int i = 0; i < 20; i++) {
            x.ask(1, 0);
        }
        dueAsk(x, 1, 0, -(1 + 2 * 6), 12, 11, 10, 24, 21, 20);
        x.ask(9, 0);
        x.ask(0, 9);
        Edge.edge(35, "what is refused changes nothing", x.trace(5), 20);
        x.plus(0, 0);
        x.undo();
        x.remove(1);
        Edge.edge(35, "no other call changes it", x.trace(5), 20);
    }

    private static void countRefusals() {
        SlackProofs x = Edge.ofAllKinds();
        for (int what : new int[] {-1, 8, 9, Edge.MIN, Edge.MAX}) {
            Edge.edge(36, "BAD: " + what, x.count(what), Edge.BAD);
        }
        Edge.edge(36, "the last", x.count(7), 0);
    }

    private static void countEach() {
        SlackProofs x = Edge.full();
        for (int row = 0; row < 8; row++) {
            x.row(row, 0, 0);
        }
        for (int i = 0; i < 200; i++) {
            x.feed('g');
        }
        int[] want = {8, 30, 30, (1 << 30) - 1, Edge.NONE, 1, 12, 200};
        for (int what = 0; what < 8; what++) {
            Edge.edge(36, "the most of " + what, x.count(what), want[what]);
        }
        x.row(0, 0, 5);
        Edge.edge(36, "a row in place of another is one", x.count(0), 8);
        x.drop(3);
        Edge.edge(36, "seven rows", x.count(0), 7);
        x.remove(0);
        x.remove(29);
        x.remove(1);
        Edge.edge(36, "live", x.count(1), 28);
        Edge.edge(36, "used", x.count(2), 30);
        Edge.edge(36, "which", x.count(3), (1 << 29) - 1 ^ 2);
        SlackProofs y = Due.read("g0;m0,9;m1,9;m2,9;m3,9;m4,9;m5,9;m6,9;m7,9;");
        Edge.edge(36, "no best", y.count(4), Edge.NONE);
        Edge.edge(36, "all prices", y.count(5), 72);
        y.solution(255);
        Edge.edge(36, "the greatest best", y.count(4), 72);
        y.solution(0);
        Edge.edge(36, "a best of 0 is one", y.count(4), 0);
    }

    /** Calls that end well, of those that status() tells of. */
    private static void well(SlackProofs x, int which) {
        switch (which) {
            case 0 -> x.row(1, 0, 0);
            case 1 -> x.set(0, 0, 0);
            case 2 -> x.copy(0, 0, 0, 0, 0);
            case 3 -> x.drop(0);
            case 4 -> x.as(0, 0);
            case 5 -> x.plus(0, 0);
            case 6 -> x.times(0, 1);
            case 7 -> Due.claim(x, "g0;");
            case 8 -> Due.claim(x, "g1;");
            case 9 -> Due.witness(x, "g0;", 0);
            case 10 -> Due.witness(x, "g1;", 0);
            case 11 -> x.solution(8);
            case 12 -> x.solution(0);
            case 13 -> x.remove(0);
            case 14 -> x.remove(1);
            case 15 -> x.remove(3);
            case 16 -> x.sum(0);
            case 17 -> x.slack(0, 0, 0);
            case 18 -> x.forced(0, 0, 0);
            case 19 -> x.forced(24, 0, 1);
            case 20 -> x.solutions(0);
            case 21 -> x.holds(0);
            case 22 -> x.follows(0);
            default -> x.verdict();
        }
    }

    private static void statusOfCalls() {
        for (int which = 0; which < 24; which++) {
            SlackProofs x = Edge.ofAllKinds();
            x.row(0, 0, 8);
            x.as(0, 5);
            Edge.edge(37, "KIND", x.status(), 3);
            well(x, which);
            Edge.edge(37, "0 behind call " + which, x.status(), 0);
        }
        for (int best = 0; best < 2; best++) {
            SlackProofs x = Due.read(best == 0 ? "g1;" : "g0;m0,1;");
            x.solution(0);
            x.as(0, 5);
            Edge.edge(37, "a verdict of " + (1 + best), x.verdict(), 1 + best);
            Edge.edge(37, "0 behind it", x.status(), 0);
        }
        SlackProofs y = new SlackProofs();
        int[] found = {4, 1, 2, 5};
        y.row(0, 0, 1);
        y.row(1, 1, 1);
        for (int i = 0; i < 4; i++) {
            int answer = i == 0 ? y.row(2, 0, -1) : i == 1 ? y.set(2, 0, 0) : i == 2 ? y.set(0, 1, 0)
                    : y.copy(0, 0, 1, 0, 1);
            Edge.edge(37, "-1000010 less its number", answer, -1000010 - found[i]);
            Edge.edge(37, "its number", y.status(), found[i]);
            Edge.edge(37, "told again", y.status(), found[i]);
        }
    }

    /** Calls without a ROW that may not answer OVER; and what is BAD, STATE, FULL, a FAULT. */
    private static void other(SlackProofs x, int which) {
        switch (which) {
            case 0 -> x.feed('g');
            case 1 -> x.feed(256);
            case 2 -> x.formula();
            case 3 -> x.fault();
            case 4 -> x.split(0, 1);
            case 5 -> x.saturate(0);
            case 6 -> x.weaken(0, 3);
            case 7 -> x.axiom(0, 0);
            case 8 -> x.undo();
            case 9 -> x.degree(0);
            case 10 -> x.coefficient(0, 0);
            case 11 -> x.price(0);
            case 12 -> x.image(0);
            case 13 -> x.restore(1);
            case 14 -> x.kind(0);
            case 15 -> x.ask(0, 0);
            case 16 -> x.trace(0);
            case 17 -> x.count(0);
            case 18 -> x.row(8, 0, 0);
            case 19 -> x.row(0, 0, 41);
            case 20 -> x.set(8, 0, 0);
            case 21 -> x.copy(0, 0, 8, 0, 0);
            case 22 -> x.drop(-1);
            case 23 -> x.as(0, 6);
            case 24 -> x.plus(0, 30);
            case 25 -> x.times(0, 0);
            case 26 -> Due.claim(x, "x");
            case 27 -> x.witness(8);
            case 28 -> Due.witness(x, "x", 0);
            case 29 -> x.solution(256);
            case 30 -> x.remove(30);
            case 31 -> x.sum(30);
            case 32 -> x.slack(0, 256, 0);
            case 33 -> x.forced(0, 0, 3);
            case 34 -> x.solutions(3);
            case 35 -> x.holds(30);
            case 36 -> x.follows(30);
            default -> x.status();
        }
    }

    private static void statusStays() {
        for (int which = 0; which < 38; which++) {
            SlackProofs x = Edge.ofAllKinds();
            x.row(0, 0, 8);
            x.image(1);
            x.as(0, 5);
            other(x, which);
            Edge.edge(37, "call " + which + " leaves it", x.status(), 3);
        }
        for (int which = 0; which < 7; which++) {
            SlackProofs x = Edge.full();
            x.row(0, 0, 8);
            x.as(0, 5);
            int answer = which == 0 ? x.plus(0, 0) : which == 1 ? x.times(0, 1) : which == 2 ? Due.claim(x, "g0;")
                    : which == 3 ? Due.witness(x, "g0;", 0) : which == 4 ? x.solution(1) : which == 5 ? x.axiom(0, 0)
                    : x.split(0, 1);
            Edge.edge(37, "FULL " + which, answer, Edge.FULL);
            Edge.edge(37, "FULL leaves it", x.status(), 3);
        }
        for (int which = 0; which < 6; which++) {
            SlackProofs x = new SlackProofs();
            x.row(0, 0, -1);
            int answer = which == 0 ? x.plus(0, 0) : which == 1 ? x.claim() : which == 2 ? x.witness(0)
                    : which == 3 ? x.solution(0) : which == 4 ? x.forced(0, 0, 0) : x.verdict();
            Edge.edge(37, "STATE " + which, answer, Edge.STATE);
            Edge.edge(37, "STATE leaves it", x.status(), 4);
        }
    }
}
