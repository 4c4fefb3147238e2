/** Edges of promises 9 to 14: plus, times, split, saturate, weaken, axiom. */
final class StepEdges {
    private static final long MOST = Long.MAX_VALUE;
    private static final int[] NO_CLAUSES = {-1, 30, 31, 32, 33, 64, Edge.MIN, Edge.MAX};

    private StepEdges() { }

    static void run() {
        plusCancels();
        plusSinks();
        plusSinksFar();
        plusAtTheGreatest();
        plusOverOfDegrees();
        plusOverChangesNothing();
        plusOfOneAndItself();
        timesFactors();
        timesAtTheGreatest();
        splitFactors();
        splitRoundsUp();
        splitOfTheGreatest();
        saturated();
        saturatedAtTheGreatest();
        weakened();
        weakenedAtTheGreatest();
        axioms();
        thirtyNumbers();
        stepsOfRemoved();
        badAheadOfFull();
    }

    private static void plusCancels() {
        SlackProofs x = Due.read("p0,5;g9;n0,5;g1;n0,4;g0;n0,6;g0;p0,1;n1,1;g9;");
        Edge.edge(9, "equal ones", x.plus(0, 1), 5);
        Edge.edgeTold(9, x, 5, ">= 5");
        Edge.edge(9, "it is not in it", x.coefficient(5, 0), 0);
        Edge.edge(9, "a lesser contrary", x.plus(0, 2), 6);
        Edge.edgeTold(9, x, 6, "1x0 >= 5");
        Edge.edge(9, "a greater contrary", x.plus(0, 3), 7);
        Edge.edgeTold(9, x, 7, "1~x0 >= 4");
        Edge.edge(9, "the other way about", x.plus(3, 0), 8);
        Edge.edgeTold(9, x, 8, "1~x0 >= 4");
        Edge.edge(9, "like ones do not cancel", x.plus(0, 4), 9);
        Edge.edgeTold(9, x, 9, "6x0 1~x1 >= 18");
        Edge.edge(9, "contraries that are alike", x.plus(1, 2), 10);
        Edge.edgeTold(9, x, 10, "9~x0 >= 1");
        Edge.edge(9, "each is derived", x.kind(10), 4);
    }

    private static void plusSinks() {
        SlackProofs x = Due.read("p0,5;p1,5;g4;n0,5;g1;n0,5;g0;n0,5;n1,5;g2;g0;");
        Edge.edge(9, "to 0 exactly", x.plus(0, 1), 5);
        Edge.edgeTold(9, x, 5, "5x1 >= 0");
        Edge.edge(9, "below 0 becomes 0", x.plus(0, 2), 6);
        Edge.edgeTold(9, x, 6, "5x1 >= 0");
        Edge.edge(9, "far below 0, by two", x.plus(0, 3), 7);
        Edge.edgeTold(9, x, 7, ">= 0");
        Edge.edge(9, "nothing and nothing", x.plus(4, 4), 8);
        Edge.edgeTold(9, x, 8, ">= 0");
        Edge.edge(9, "nothing more", x.plus(0, 4), 9);
        Edge.edgeTold(9, x, 9, "5x0 5x1 >= 4");
    }

    /** All eight cancel: the degree is lessened by far more than a long holds, and becomes 0. */
    private static void plusSinksFar() {
        SlackProofs x = Due.read("p0,49;p1,49;n2,49;p3,49;p4,49;p5,49;n6,49;p7,49;g49;"
                + "n0,49;n1,49;p2,49;n3,49;n4,49;n5,49;p6,49;n7,49;g0;");
        int one = Edge.timesToTheGreatest(x, 0);
        int other = Edge.timesToTheGreatest(x, 1);
        Edge.edge(9, "the greatest degree sinks", x.plus(one, other), other + 1);
        Edge.edgeTold(9, x, other + 1, ">= 0");
        Edge.edge(9, "status 0", x.status(), 0);
        Edge.edge(9, "the other way about", x.plus(other, one), other + 2);
        Edge.edgeTold(9, x, other + 2, ">= 0");
    }

    /** 24 and 25 parts of 49 are the greatest long together; one more is beyond. */
    private static void plusAtTheGreatest() {
        SlackProofs x = Due.read("p0,24;n1,24;g24;p0,25;n1,25;g25;p0,1;g0;n1,1;g0;g1;n0,1;g0;");
        int less = Edge.timesToTheGreatest(x, 0);
        int more = Edge.timesToTheGreatest(x, 1);
        int both = x.plus(less, more);
        Edge.edgeTold(9, x, both, MOST + "x0 " + MOST + "~x1 >= " + MOST);
        Edge.edge(9, "OVER by one: a coefficient", x.plus(both, 2), Edge.OVER);
        Edge.edge(9, "OVER by one: a coefficient of the contrary", x.plus(both, 3), Edge.OVER);
        Edge.edge(9, "OVER by one: the degree", x.plus(both, 4), Edge.OVER);
        Edge.edge(9, "the other way about", x.plus(4, both), Edge.OVER);
        Edge.edge(9, "OVER: with itself", x.plus(both, both), Edge.OVER);
        Edge.edge(9, "status OVER", x.status(), 6);
        int lessened = x.plus(both, 5);
        Edge.edge(9, "one less of what cancels", x.coefficient(lessened, 0), MOST - 1);
        Edge.edge(9, "the degree sinks by one", x.degree(lessened), MOST - 1);
        Edge.edge(9, "status 0", x.status(), 0);
        Edge.edge(9, "then there is room for one", x.coefficient(x.plus(lessened, 2), 0), MOST);
    }

    private static void plusOverOfDegrees() {
        SlackProofs x = Due.read("g1;p0,1;g0;n0,1;g1;");
        int half = Edge.timesTwoTo62(x, 0);
        Edge.edge(9, "2 to the 62", x.degree(half), 1L << 62);
        Edge.edge(9, "twice that is beyond", x.plus(half, half), Edge.OVER);
        int positive = Edge.timesTwoTo62(x, 1);
        int contrary = Edge.timesTwoTo62(x, 2);
        Edge.edge(9, "coefficients beyond, no degree", x.plus(positive, positive), Edge.OVER);
        Edge.edge(9, "they cancel", x.plus(positive, contrary), contrary + 1);
        Edge.edgeTold(9, x, contrary + 1, ">= 0");
        Edge.edge(9, "degrees beyond, told ahead of what cancels", x.plus(half, contrary), Edge.OVER);
    }

    private static void plusOverChangesNothing() {
        SlackProofs x = Edge.beyond();
        Edge.edge(9, "OVER", x.plus(2, 2), Edge.OVER);
        Edge.edge(9, "no number", x.count(2), 3);
        Edge.edge(9, "no act", x.count(6), 2);
        Edge.edge(9, "no clause", x.degree(3), Edge.BAD);
        Edge.edge(9, "the next number is the same", x.plus(0, 0), 3);
        Edge.edgeTold(9, x, 3, "4x0 4~x1 >= 2");
        Edge.edge(9, "OVER once more", x.plus(2, 2), Edge.OVER);
        x.plus(2, 30);
        Edge.edge(9, "BAD leaves the status", x.status(), 6);
    }

    private static void plusOfOneAndItself() {
        SlackProofs x = Due.read("p0,99;n7,1;g99;");
        Edge.edge(9, "one with itself", x.plus(0, 0), 1);
        Edge.edgeTold(9, x, 1, "198x0 2~x7 >= 198");
        Edge.edgeTold(9, x, 0, "99x0 1~x7 >= 99");
    }

    private static void timesFactors() {
        SlackProofs x = Due.read("p0,3;n1,2;g4;g0;");
        for (int k : new int[] {0, -1, -2, Edge.MIN, Edge.MIN + 1}) {
            Edge.edge(10, "BAD: k " + k, x.times(0, k), Edge.BAD);
        }
        Edge.edge(10, "k 1", x.times(0, 1), 2);
        Edge.edgeTold(10, x, 2, "3x0 2~x1 >= 4");
        Edge.edge(10, "k 2", x.times(0, 2), 3);
        Edge.edgeTold(10, x, 3, "6x0 4~x1 >= 8");
        Edge.edge(10, "the greatest k", x.times(0, Edge.MAX), 4);
        Edge.edgeTold(10, x, 4, "6442450941x0 4294967294~x1 >= 8589934588");
        Edge.edge(10, "nothing, the greatest k", x.times(1, Edge.MAX), 5);
        Edge.edgeTold(10, x, 5, ">= 0");
        Edge.edge(10, "derived", x.kind(5), 4);
    }

    private static void timesAtTheGreatest() {
        SlackProofs x = Due.read("p0,49;g0;n0,49;g0;g49;p0,1;g0;n0,1;g0;g1;");
        for (int a = 0; a < 3; a++) {
            int most = Edge.timesToTheGreatest(x, a);
            Edge.edge(10, "the greatest long", Math.max(Math.abs(x.coefficient(most, 0)), x.degree(most)), MOST);
            Edge.edge(10, "once goes", x.times(most, 1), most + 1);
            Edge.edge(10, "status 0", x.status(), 0);
            Edge.edge(10, "OVER: twice", x.times(most, 2), Edge.OVER);
            Edge.edge(10, "status OVER", x.status(), 6);
            Edge.edge(10, "OVER: the greatest k", x.times(most, Edge.MAX), Edge.OVER);
            Edge.edge(10, "nothing came", x.count(2), most + 2);
            x.undo();
        }
        SlackProofs y = Due.read("p0,1;g0;n0,1;g0;g1;");
        for (int a = 0; a < 3; a++) {
            int half = Edge.timesTwoTo62(y, a);
            Edge.edge(10, "OVER: 2 to the 63", y.times(half, 2), Edge.OVER);
            Edge.edge(10, "OVER: 2 to the 64 wraps around to 0", y.times(half, 4), Edge.OVER);
            Edge.edge(10, "OVER: 5 times 2 to the 62 wraps around", y.times(half, 5), Edge.OVER);
        }
    }

    private static void splitFactors() {
        SlackProofs x = Due.read("p0,3;n1,2;g4;");
        for (int k : new int[] {0, -1, -2, Edge.MIN, Edge.MIN + 1}) {
            Edge.edge(11, "BAD: k " + k, x.split(0, k), Edge.BAD);
        }
        x.as(0, 5);
        Edge.edge(11, "k 1", x.split(0, 1), 1);
        Edge.edgeTold(11, x, 1, "3x0 2~x1 >= 4");
        Edge.edge(11, "the greatest k", x.split(0, Edge.MAX), 2);
        Edge.edgeTold(11, x, 2, "1x0 1~x1 >= 1");
        Edge.edge(11, "it may not answer OVER, so the status stays", x.status(), 3);
        Edge.edge(11, "derived", x.kind(2), 4);
    }

    private static void splitRoundsUp() {
        SlackProofs x = Due.read("p0,1;n1,6;p2,7;n3,8;p4,14;g7;g0;g1;g8;");
        Edge.edge(11, "by 7", x.split(0, 7), 4);
        Edge.edgeTold(11, x, 4, "1x0 1~x1 1x2 2~x3 2x4 >= 1");
        Edge.edge(11, "0 stays 0", x.degree(x.split(1, 7)), 0);
        Edge.edge(11, "1 stays 1", x.degree(x.split(2, 7)), 1);
        Edge.edge(11, "8 becomes 2", x.degree(x.split(3, 7)), 2);
        Edge.edge(11, "none vanishes", x.ask(4, 0), 5 - 100);
        Edge.edge(11, "what is not in it does not come", x.coefficient(4, 5), 0);
    }

    private static void splitOfTheGreatest() {
        SlackProofs x = Due.read("p0,49;n1,49;g49;");
        int most = Edge.timesToTheGreatest(x, 0);
        Edge.edge(11, "by 1", x.degree(x.split(most, 1)), MOST);
        int half = x.split(most, 2);
        Edge.edgeTold(11, x, half, (1L << 62) + "x0 " + (1L << 62) + "~x1 >= " + (1L << 62));
        int part = x.split(most, Edge.MAX);
        long up = MOST / Edge.MAX + 1;
        Edge.edgeTold(11, x, part, up + "x0 " + up + "~x1 >= " + up);
        int whole = x.split(most, 649657);
        long even = MOST / 649657;
        Edge.edgeTold(11, x, whole, even + "x0 " + even + "~x1 >= " + even);
    }

    private static void saturated() {
        SlackProofs x = Due.read("p0,3;n1,4;p2,5;n3,6;g4;p0,1;n1,9;g0;p0,1;n1,1;g1;p0,1;n1,2;g99;");
        Edge.edge(12, "above the degree only", x.saturate(0), 4);
        Edge.edgeTold(12, x, 4, "3x0 4~x1 4x2 4~x3 >= 4");
        Edge.edge(12, "degree 0: nothing is in it", x.saturate(1), 5);
        Edge.edgeTold(12, x, 5, ">= 0");
        Edge.edge(12, "nothing is in it", x.ask(5, 0), -100);
        Edge.edge(12, "as great as the degree", x.saturate(2), 6);
        Edge.edgeTold(12, x, 6, "1x0 1~x1 >= 1");
        Edge.edge(12, "far below the degree", x.saturate(3), 7);
        Edge.edgeTold(12, x, 7, "1x0 2~x1 >= 99");
        Edge.edge(12, "derived", x.kind(7), 4);
        Edge.edgeTold(12, x, 0, "3x0 4~x1 5x2 6~x3 >= 4");
    }

    private static void saturatedAtTheGreatest() {
        SlackProofs x = Due.read("p0,49;n1,49;g49;p0,1;n1,1;g1;");
        int most = Edge.timesToTheGreatest(x, 0);
        int same = x.saturate(most);
        Edge.edgeTold(12, x, same, MOST + "x0 " + MOST + "~x1 >= " + MOST);
        int sunk = x.weaken(most, 0);
        Edge.edgeTold(12, x, sunk, MOST + "~x1 >= 0");
        Edge.edgeTold(12, x, x.saturate(sunk), ">= 0");
        x.as(0, 5);
        x.saturate(most);
        Edge.edge(12, "it may not answer OVER, so the status stays", x.status(), 3);
    }

    private static void weakened() {
        SlackProofs x = Due.read("p0,3;n1,4;p2,5;g4;p7,1;g1;");
        for (int v : new int[] {-1, 8, 9, 31, 32, 64, Edge.MIN, Edge.MAX}) {
            Edge.edge(13, "BAD: variable " + v, x.weaken(0, v), Edge.BAD);
        }
        for (int v = 3; v < 8; v++) {
            Edge.edge(13, "BAD: it is not in it, " + v, x.weaken(0, v), Edge.BAD);
        }
        Edge.edge(13, "nothing came", x.count(2), 2);
        Edge.edge(13, "less than the degree", x.weaken(0, 0), 2);
        Edge.edgeTold(13, x, 2, "4~x1 5x2 >= 1");
        Edge.edge(13, "as much as the degree", x.weaken(0, 1), 3);
        Edge.edgeTold(13, x, 3, "3x0 5x2 >= 0");
        Edge.edge(13, "more: 0 at least", x.weaken(0, 2), 4);
        Edge.edgeTold(13, x, 4, "3x0 4~x1 >= 0");
        Edge.edge(13, "of degree 0", x.weaken(4, 0), 5);
        Edge.edgeTold(13, x, 5, "4~x1 >= 0");
        Edge.edge(13, "the last one", x.weaken(1, 7), 6);
        Edge.edgeTold(13, x, 6, ">= 0");
        Edge.edge(13, "it is no more in it", x.weaken(6, 7), Edge.BAD);
        Edge.edge(13, "derived", x.kind(6), 4);
        Edge.edgeTold(13, x, 0, "3x0 4~x1 5x2 >= 4");
    }

    private static void weakenedAtTheGreatest() {
        SlackProofs x = Due.read("p0,49;n1,49;g0;g49;");
        int wide = Edge.timesToTheGreatest(x, 0);
        int deep = Edge.timesToTheGreatest(x, 1);
        int one = x.weaken(wide, 0);
        Edge.edgeTold(13, x, one, MOST + "~x1 >= 0");
        Edge.edge(13, "0 at least, far below", x.degree(x.weaken(one, 1)), 0);
        int both = x.plus(wide, deep);
        Edge.edgeTold(13, x, x.weaken(both, 1), MOST + "x0 >= 0");
    }

    private static void axioms() {
        SlackProofs x = Due.read("g0;");
        for (int far : new int[] {-1, 8, 9, 32, Edge.MIN, Edge.MAX}) {
            Edge.edge(14, "BAD: variable " + far, x.axiom(far, 1), Edge.BAD);
        }
        for (int far : new int[] {-1, 2, 3, Edge.MIN, Edge.MAX}) {
            Edge.edge(14, "BAD: which " + far, x.axiom(0, far), Edge.BAD);
        }
        x.as(0, 5);
        for (int v = 0; v < 8; v++) {
            Edge.edge(14, "of " + v, x.axiom(v, 1), 1 + 2 * v);
            Edge.edgeTold(14, x, 1 + 2 * v, "1x" + v + " >= 0");
            Edge.edge(14, "of its contrary", x.axiom(v, 0), 2 + 2 * v);
            Edge.edgeTold(14, x, 2 + 2 * v, "1~x" + v + " >= 0");
            Edge.edge(14, "an axiom", x.kind(2 + 2 * v), 2);
        }
        Edge.edge(14, "it may not answer OVER, so the status stays", x.status(), 3);
    }

    /** The thirtieth comes, the next is FULL, even if one was removed; by a new formula there is room. */
    private static void thirtyNumbers() {
        for (int promise = 9; promise <= 14; promise++) {
            SlackProofs x = Due.read("p0,2;g1;");
            for (int i = 1; i < 29; i++) {
                x.axiom(0, 1);
            }
            Edge.edge(promise, "the thirtieth", step(x, promise), 29);
            x.as(0, 5);
            Edge.edge(promise, "FULL", step(x, promise), Edge.FULL);
            Edge.edge(promise, "FULL leaves the status", x.status(), 3);
            x.remove(28);
            Edge.edge(promise, "FULL yet", step(x, promise), Edge.FULL);
            Edge.edge(promise, "29 are live", x.count(1), 29);
            Edge.edge(promise, "acts", x.count(6), 12);
            Due.feed(x, "p0,2;g1;");
            x.formula();
            Edge.edge(promise, "room by a new formula", step(x, promise), 1);
        }
    }

    private static int step(SlackProofs x, int promise) {
        switch (promise) {
            case 9: return x.plus(0, 0);
            case 10: return x.times(0, 3);
            case 11: return x.split(0, 2);
            case 12: return x.saturate(0);
            case 13: return x.weaken(0, 0);
            default: return x.axiom(3, 0);
        }
    }

    private static void stepsOfRemoved() {
        SlackProofs x = Due.read("p0,2;g1;");
        x.times(0, 2);
        x.times(0, 3);
        x.remove(1);
        int[] none = {1, 3, 4, -1, 29, 30, 31, 32, 33, 34, 64, Edge.MIN, Edge.MIN + 2, Edge.MAX};
        for (int a : none) {
            Edge.edge(9, "BAD: first " + a, x.plus(a, 0), Edge.BAD);
            Edge.edge(9, "BAD: second " + a, x.plus(0, a), Edge.BAD);
            Edge.edge(9, "BAD: both " + a, x.plus(a, a), Edge.BAD);
            Edge.edge(10, "BAD: " + a, x.times(a, 1), Edge.BAD);
            Edge.edge(11, "BAD: " + a, x.split(a, 1), Edge.BAD);
            Edge.edge(12, "BAD: " + a, x.saturate(a), Edge.BAD);
            Edge.edge(13, "BAD: " + a, x.weaken(a, 0), Edge.BAD);
        }
        Edge.edge(9, "those about it are live", x.plus(0, 2), 3);
    }

    private static void badAheadOfFull() {
        SlackProofs x = Edge.full();
        for (int a : NO_CLAUSES) {
            Edge.edge(9, "BAD ahead of FULL", x.plus(0, a), Edge.BAD);
            Edge.edge(10, "BAD ahead of FULL", x.times(a, 1), Edge.BAD);
            Edge.edge(11, "BAD ahead of FULL", x.split(a, 1), Edge.BAD);
            Edge.edge(12, "BAD ahead of FULL", x.saturate(a), Edge.BAD);
            Edge.edge(13, "BAD ahead of FULL", x.weaken(a, 0), Edge.BAD);
        }
        Edge.edge(10, "BAD k ahead of FULL", x.times(0, 0), Edge.BAD);
        Edge.edge(11, "BAD k ahead of FULL", x.split(0, 0), Edge.BAD);
        Edge.edge(13, "not in it, ahead of FULL", x.weaken(0, 7), Edge.BAD);
        Edge.edge(13, "no variable, ahead of FULL", x.weaken(0, 8), Edge.BAD);
        Edge.edge(14, "no variable, ahead of FULL", x.axiom(8, 1), Edge.BAD);
        Edge.edge(14, "which, ahead of FULL", x.axiom(0, 2), Edge.BAD);
        SlackProofs y = Edge.fullAndBeyond();
        Edge.edge(9, "FULL ahead of OVER", y.plus(2, 2), Edge.FULL);
        Edge.edge(10, "FULL ahead of OVER", y.times(2, 2), Edge.FULL);
        y.sum(2);
        y.plus(2, 2);
        Edge.edge(9, "FULL leaves the status", y.status(), 6);
        Edge.edge(9, "the last of 30 is live", y.kind(29), 2);
    }
}
