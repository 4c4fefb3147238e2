/** Edges of promises 20 to 31: what there is, images. */
final class LookEdges {
    private static final long MOST = Long.MAX_VALUE;

    private LookEdges() { }

    static void run() {
        noSuchClause();
        removedAndUndone();
        degrees();
        coefficients();
        sums();
        slackSets();
        slackEnds();
        forcedRefusals();
        forcedSlack();
        forcedSets();
        forcedConflict();
        solutionsRefusals();
        solutionsFirst();
        holdsEdges();
        followsEdges();
        verdictEdges();
        verdictOver();
        prices();
        imageRefusals();
        imageKeeps();
        restoreKeeps();
    }

    private static void noSuch(SlackProofs x, int a) {
        Edge.edge(20, "BAD: " + a, x.degree(a), Edge.BAD);
        Edge.edge(21, "BAD: " + a, x.coefficient(a, 0), Edge.BAD);
        Edge.edge(22, "BAD: " + a, x.sum(a), Edge.BAD);
        Edge.edge(23, "BAD: " + a, x.slack(a, 0, 0), Edge.BAD);
        Edge.edge(26, "BAD: " + a, x.holds(a), Edge.BAD);
        Edge.edge(27, "BAD: " + a, x.follows(a), Edge.BAD);
        Edge.edge(32, "BAD: " + a, x.kind(a), Edge.BAD);
        Edge.edge(33, "BAD: " + a, x.as(a, 0), Edge.BAD);
        Edge.edge(34, "BAD: " + a, x.ask(a, 0), Edge.BAD);
    }

    /** Numbers that wrap around to one that is live when shifted by them, too. */
    private static void noSuchClause() {
        SlackProofs x = Due.read("p0,1;g1;g0;");
        x.as(0, 5);
        for (int a : new int[] {-1, 2, 3, 29, 30, 31, 32, 33, 64, 65, -32, -31, Edge.MIN, Edge.MIN + 1, Edge.MAX}) {
            noSuch(x, a);
        }
        Edge.edge(20, "BAD leaves the status", x.status(), 3);
        SlackProofs y = Edge.full();
        for (int a : new int[] {-1, 30, 31, 32, 33, 61, 62, Edge.MIN, Edge.MAX}) {
            noSuch(y, a);
        }
        Edge.edge(20, "the last of 30", y.degree(29), 0);
        Edge.edge(21, "the last of 30", y.coefficient(29, 0), 1);
        Edge.edge(22, "the last of 30", y.sum(29), 1);
        Edge.edge(23, "the last of 30", y.slack(29, 0, 0), 1);
        Edge.edge(26, "the last of 30", y.holds(29), 256);
        Edge.edge(27, "the last of 30", y.follows(29), 1);
    }

    private static void removedAndUndone() {
        SlackProofs x = Due.read("p0,1;g1;");
        x.times(0, 3);
        x.times(0, 4);
        x.remove(1);
        noSuch(x, 1);
        Edge.edge(20, "those about it", x.degree(0) + x.degree(2), 5);
        x.undo();
        Edge.edge(20, "live again", x.degree(1), 3);
        x.undo();
        noSuch(x, 2);
    }

    private static void degrees() {
        SlackProofs x = Due.read("g0;g99;p0,49;g49;");
        Edge.edge(20, "0", x.degree(0), 0);
        Edge.edge(20, "99", x.degree(1), 99);
        Edge.edge(20, "the greatest", x.degree(Edge.timesToTheGreatest(x, 2)), MOST);
        x.as(0, 5);
        x.degree(0);
        x.coefficient(0, 0);
        Edge.edge(20, "it may not answer OVER, so the status stays", x.status(), 3);
    }

    private static void coefficients() {
        SlackProofs x = Due.read("p0,49;n7,49;g0;");
        for (int v : new int[] {-1, 8, 9, 31, 32, Edge.MIN, Edge.MAX}) {
            Edge.edge(21, "BAD: variable " + v, x.coefficient(0, v), Edge.BAD);
        }
        int most = Edge.timesToTheGreatest(x, 0);
        Edge.edge(21, "the greatest", x.coefficient(most, 0), MOST);
        Edge.edge(21, "less than 0 of its contrary", x.coefficient(most, 7), -MOST);
        for (int v = 1; v < 7; v++) {
            Edge.edge(21, "it is not in it", x.coefficient(most, v), 0);
        }
    }

    private static void sums() {
        SlackProofs x = Due.read("p0,24;n1,25;g0;p0,24;n1,25;p2,1;g0;g99;p7,1;g0;");
        Edge.edge(22, "of none", x.sum(2), 0);
        int most = Edge.timesToTheGreatest(x, 0);
        Edge.edge(22, "the greatest long", x.sum(most), MOST);
        Edge.edge(22, "status 0", x.status(), 0);
        int more = x.plus(most, 3);
        Edge.edge(22, "OVER by one", x.sum(more), Edge.OVER);
        Edge.edge(22, "status OVER", x.status(), 6);
        x.sum(30);
        Edge.edge(22, "BAD leaves the status", x.status(), 6);
        Edge.edge(22, "of others", x.sum(0), 49);
        Edge.edge(22, "status 0", x.status(), 0);
        SlackProofs y = Due.read("p0,1;n1,1;p2,1;n3,1;p4,1;n5,1;p6,1;n7,1;g0;");
        int great = Edge.timesTwoTo62(y, 0);
        Edge.edge(22, "8 times 2 to the 62 wraps around to 0", y.sum(great), Edge.OVER);
        for (int v = 7; v > 1; v--) {
            great = y.weaken(great, v);
            Edge.edge(22, "less of it", y.sum(great), Edge.OVER);
        }
        Edge.edge(22, "2 to the 62 alone", y.sum(y.weaken(great, 1)), 1L << 62);
    }

    private static void slackSets() {
        SlackProofs x = Due.read("p0,2;n7,3;g4;");
        x.as(0, 5);
        for (int far : Edge.FAR) {
            Edge.edge(23, "BAD: known " + far, x.slack(0, far, 0), Edge.BAD);
            Edge.edge(23, "BAD: values " + far, x.slack(0, 0, far), Edge.BAD);
        }
        Edge.edge(23, "BAD leaves the status", x.status(), 3);
        Edge.edge(23, "nothing is known", x.slack(0, 0, 0), 1);
        Edge.edge(23, "status 0", x.status(), 0);
        Edge.edge(23, "values of what is not known are nothing", x.slack(0, 0, 255), 1);
        Edge.edge(23, "all known, all 0", x.slack(0, 255, 0), -1);
        Edge.edge(23, "all known, all 1", x.slack(0, 255, 255), -2);
        Edge.edge(23, "all known, all hold", x.slack(0, 255, 1), 1);
        Edge.edge(23, "all known, none holds", x.slack(0, 255, 128), -4);
        Edge.edge(23, "x7 alone", x.slack(0, 128, 255), -2);
        Edge.edge(23, "x0 alone", x.slack(0, 1, 254), -1);
        Edge.edge(23, "what is not in it", x.slack(0, 126, 0), 1);
    }

    private static void slackEnds() {
        SlackProofs x = Due.read("p0,24;n1,25;g0;g49;p2,1;g0;");
        int wide = Edge.timesToTheGreatest(x, 0);
        int deep = Edge.timesToTheGreatest(x, 1);
        Edge.edge(23, "the greatest", x.slack(wide, 0, 0), MOST);
        Edge.edge(23, "the least", x.slack(deep, 0, 0), -MOST);
        int both = x.plus(wide, deep);
        Edge.edge(23, "0", x.slack(both, 0, 0), 0);
        Edge.edge(23, "none of it", x.slack(both, 3, 2), -MOST);
        int more = x.plus(both, 2);
        Edge.edge(23, "OVER: the sum is beyond", x.slack(more, 0, 0), Edge.OVER);
        Edge.edge(23, "status OVER", x.status(), 6);
        Edge.edge(23, "OVER, even if what is left is not", x.slack(more, 255, 2), Edge.OVER);
        Edge.edge(23, "BAD ahead of OVER", x.slack(more, 256, 0), Edge.BAD);
        Edge.edge(23, "of another one", x.slack(2, 0, 0), 1);
        Edge.edge(23, "status 0", x.status(), 0);
    }

    private static void forcedRefusals() {
        SlackProofs x = Due.read("p0,1;g1;");
        x.as(0, 5);
        for (int far : Edge.FAR) {
            Edge.edge(24, "BAD: known " + far, x.forced(far, 0, 0), Edge.BAD);
            Edge.edge(24, "BAD: values " + far, x.forced(0, far, 0), Edge.BAD);
            Edge.edge(24, "BAD: what " + far, x.forced(0, 0, far), Edge.BAD);
        }
        Edge.edge(24, "BAD: what 3", x.forced(0, 0, 3), Edge.BAD);
        Edge.edge(24, "BAD leaves the status", x.status(), 3);
        Edge.edge(24, "255 both", x.forced(255, 255, 1), 255);
        Edge.edge(24, "status 0", x.status(), 0);
        SlackProofs y = Edge.beyond();
        for (int what = 0; what < 3; what++) {
            Edge.edge(24, "OVER", y.forced(255, 255, what), Edge.OVER);
        }
        Edge.edge(24, "status OVER", y.status(), 6);
        Edge.edge(24, "BAD ahead of OVER", y.forced(0, 0, 3), Edge.BAD);
        y.remove(2);
        Edge.edge(24, "removed", y.forced(0, 0, 0), 0);
    }

    /** Above the slack, not as great as it; a slack of 0 is no conflict. */
    private static void forcedSlack() {
        Edge.edge(24, "as great as the slack", Due.read("p0,2;p1,2;g2;").forced(0, 0, 1), 0);
        Edge.edge(24, "one above it", Due.read("p0,2;p1,2;g3;").forced(0, 0, 2), 3);
        Edge.edge(24, "a slack of 0", Due.read("p0,2;p1,2;g4;").forced(0, 0, 0), 0);
        Edge.edge(24, "all of it then", Due.read("p0,2;p1,2;g4;").forced(0, 0, 2), 3);
        Edge.edge(24, "a slack below 0", Due.read("p0,2;p1,2;g5;").forced(0, 0, 0), 1);
        Edge.edge(24, "a degree of 0 of nothing", Due.read("g0;").forced(0, 0, 0), 0);
        Edge.edge(24, "a degree of 1 of nothing", Due.read("g1;").forced(0, 0, 0), 1);
        Edge.edge(24, "what is not in it is not forced", Due.read("p0,1;g1;").forced(0, 0, 1), 1);
        SlackProofs x = Due.read("p0,24;n1,25;g49;");
        Edge.timesToTheGreatest(x, 0);
        Edge.edge(24, "the greatest numbers", x.forced(0, 0, 1), 3);
        Edge.edge(24, "of a contrary", x.forced(0, 0, 2), 1);
        Edge.edge(24, "conflict with them", x.forced(2, 2, 0), 1);
    }

    private static void forcedSets() {
        SlackProofs x = Due.read("n0,1;p1,1;g1;n1,1;p2,1;g1;n2,1;p3,1;g1;n3,1;p4,1;g1;n4,1;p5,1;g1;n5,1;p6,1;g1;n6,1;p7,1;g1;");
        Edge.edge(24, "a chain of all eight", x.forced(1, 1, 1), 255);
        Edge.edge(24, "all are 1", x.forced(1, 1, 2), 255);
        Edge.edge(24, "backward", x.forced(128, 0, 1), 255);
        Edge.edge(24, "all are 0", x.forced(128, 0, 2), 0);
        Edge.edge(24, "no conflict", x.forced(128, 0, 0), 0);
        Edge.edge(24, "at both ends", x.forced(129, 1, 0), 1);
        Edge.edge(24, "at both ends", x.forced(129, 1, 1), Edge.NONE);
        Edge.edge(24, "at both ends", x.forced(129, 1, 2), Edge.NONE);
        Edge.edge(24, "NONE is no finding", x.status(), 0);
        Edge.edge(24, "nothing known, nothing forced", x.forced(0, 255, 1), 0);
        Edge.edge(24, "values of what is not known are nothing", x.forced(0, 255, 2), 0);
        Edge.edge(24, "what is known is told, too", x.forced(255, 0, 1), 255);
        Edge.edge(24, "what is 1 of it", x.forced(255, 0x80, 2), 0x80);
    }

    private static void forcedConflict() {
        SlackProofs x = Due.read("p0,1;g1;");
        Edge.edge(24, "known against it", x.forced(1, 0, 0), 1);
        Edge.edge(24, "NONE", x.forced(1, 0, 1), Edge.NONE);
        Edge.edge(24, "NONE", x.forced(1, 0, 2), Edge.NONE);
        Edge.edge(24, "what looks on leaves no trace", x.forced(0, 0, 1), 1);
        x.times(0, 2);
        x.remove(1);
        Due.feed(x, "p0,1;g1;n0,1;g1;");
        x.formula();
        Edge.edge(24, "one against the other", x.forced(0, 0, 0), 1);
    }

    private static void solutionsRefusals() {
        SlackProofs x = Due.read("p0,1;g1;");
        x.as(0, 5);
        for (int far : Edge.FAR) {
            Edge.edge(25, "BAD: " + far, x.solutions(far), Edge.BAD);
        }
        Edge.edge(25, "BAD: 3", x.solutions(3), Edge.BAD);
        Edge.edge(25, "BAD leaves the status", x.status(), 3);
        Edge.edge(25, "half of them", x.solutions(0), 128);
        Edge.edge(25, "status 0", x.status(), 0);
        SlackProofs y = Edge.beyond();
        for (int what = 0; what < 3; what++) {
            Edge.edge(25, "OVER", y.solutions(what), Edge.OVER);
        }
        Edge.edge(25, "status OVER", y.status(), 6);
        Edge.edge(25, "BAD ahead of OVER", y.solutions(3), Edge.BAD);
    }

    private static void solutionsFirst() {
        SlackProofs x = Due.read("g1;m0,1;");
        Edge.edge(25, "none", x.solutions(0), 0);
        Edge.edge(25, "no price", x.solutions(1), Edge.NONE);
        Edge.edge(25, "no first", x.solutions(2), Edge.NONE);
        Edge.edge(25, "NONE is no finding", x.status(), 0);
        SlackProofs y = Due.read("g0;m0,1;");
        Edge.edge(25, "all", y.solutions(0), 256);
        Edge.edge(25, "price 0", y.solutions(1), 0);
        Edge.edge(25, "values 0", y.solutions(2), 0);
        SlackProofs z = Due.read("p0,1;p1,1;p2,1;p3,1;p4,1;p5,1;p6,1;p7,1;g8;m0,9;m1,9;m2,9;m3,9;m4,9;m5,9;m6,9;m7,9;");
        Edge.edge(25, "the last alone", z.solutions(0), 1);
        Edge.edge(25, "the dearest", z.solutions(1), 72);
        Edge.edge(25, "255", z.solutions(2), 255);
        SlackProofs u = Due.read("p6,1;p7,1;g1;m6,2;m7,2;");
        Edge.edge(25, "the first of two as dear", u.solutions(2), 64);
        SlackProofs w = Due.read("p6,1;p7,1;g1;m6,2;m7,1;");
        Edge.edge(25, "a later one that is cheaper", w.solutions(2), 128);
        SlackProofs t = Due.read("p7,1;g1;");
        Edge.edge(25, "without prices 0", t.solutions(1), 0);
        Edge.edge(25, "and the first of all", t.solutions(2), 128);
        w.solution(128);
        Edge.edge(25, "a bound counts", w.solutions(0), 0);
    }

    private static void holdsEdges() {
        SlackProofs x = Due.read("p0,3;n1,2;g0;p0,3;n1,2;g2;p0,3;n1,2;g3;p0,3;n1,2;g4;p0,3;n1,2;g5;p0,3;n1,2;g6;g1;");
        int[] want = {256, 192, 128, 64, 64, 0, 0};
        for (int a = 0; a < want.length; a++) {
            Edge.edge(26, "degree " + x.degree(a), x.holds(a), want[a]);
        }
        SlackProofs y = Due.read("p0,24;n1,25;g49;p2,1;g0;");
        int most = Edge.timesToTheGreatest(y, 0);
        Edge.edge(26, "the greatest sum", y.holds(most), 64);
        int more = y.plus(most, 1);
        Edge.edge(26, "OVER: its sum", y.holds(more), Edge.OVER);
        Edge.edge(26, "status OVER", y.status(), 6);
        Edge.edge(26, "another one is not", y.holds(0), 64);
        Edge.edge(26, "status 0", y.status(), 0);
    }

    private static void followsEdges() {
        SlackProofs x = Due.read("p0,1;g1;p0,1;g0;p0,1;g2;");
        Edge.edge(27, "all from what cannot be", x.follows(0), 1);
        Edge.edge(27, "degree 0", x.follows(1), 1);
        Edge.edge(27, "what cannot be, from none such", x.follows(2), 0);
        SlackProofs y = Due.read("p0,1;g1;");
        Edge.edge(27, "not from itself", y.follows(0), 0);
        Edge.edge(27, "status 0", y.status(), 0);
        y.times(0, 2);
        Edge.edge(27, "from another one", y.follows(0), 1);
        Edge.edge(27, "that from it", y.follows(1), 1);
        y.remove(1);
        Edge.edge(27, "not from what is removed", y.follows(0), 0);
        SlackProofs z = Edge.beyond();
        for (int a = 0; a < 3; a++) {
            Edge.edge(27, "OVER by any live one", z.follows(a), Edge.OVER);
        }
        z.axiom(0, 1);
        Edge.edge(27, "OVER, even of degree 0", z.follows(3), Edge.OVER);
        Edge.edge(27, "status OVER", z.status(), 6);
        Edge.edge(27, "BAD ahead of OVER", z.follows(4), Edge.BAD);
        SlackProofs u = Due.read("p0,49;g49;p0,49;g48;g0;");
        int most = Edge.timesToTheGreatest(u, 0);
        Edge.edge(27, "the greatest numbers", u.follows(most), 1);
        Edge.edge(27, "from them", u.follows(1), 1);
        SlackProofs w = Due.read("p0,24;n1,25;g0;p0,24;n1,25;g1;");
        most = Edge.timesToTheGreatest(w, 0);
        Edge.edge(27, "degree 0, the greatest sum", w.follows(most), 1);
        most = Edge.timesToTheGreatest(w, 1);
        Edge.edge(27, "a small degree, the greatest sum", w.follows(most), 1);
        w.remove(most - 1);
        w.remove(most - 2);
        Edge.edge(27, "from a given one", w.follows(most), 1);
        Edge.edge(27, "the given one from it", w.follows(1), 1);
        w.remove(most);
        Edge.edge(27, "from nothing", w.follows(1), 0);
    }

    private static void verdictEdges() {
        Edge.edge(28, "degree 0 of nothing", Due.read("g0;").verdict(), 0);
        Edge.edge(28, "degree 1 of nothing", Due.read("g1;").verdict(), 1);
        Edge.edge(28, "as much as the sum", Due.read("p0,2;n1,3;g5;").verdict(), 0);
        Edge.edge(28, "one above the sum", Due.read("p0,2;n1,3;g6;").verdict(), 1);
        Edge.edge(28, "the last of eight", Due.read(Edge.times("g0;", 7) + "g1;").verdict(), 1);
        Edge.edge(28, "that none is left is not enough", Due.read("p0,1;g1;n0,1;g1;").verdict(), 0);
        SlackProofs x = Due.read("g0;m0,1;");
        x.solution(1);
        Edge.edge(28, "open yet", x.verdict(), 0);
        x.solution(0);
        Edge.edge(28, "the bound is above its sum", x.verdict(), 2);
        x.undo();
        Edge.edge(28, "open again", x.verdict(), 0);
        SlackProofs y = Due.read("p0,1;g1;n0,1;g1;");
        y.plus(0, 1);
        Edge.edge(28, "no solution", y.verdict(), 1);
        y.remove(2);
        Edge.edge(28, "removed", y.verdict(), 0);
        Edge.edge(28, "status 0", y.status(), 0);
        SlackProofs z = Due.read("p0,24;n1,25;g49;g1;");
        int most = Edge.timesToTheGreatest(z, 0);
        z.undo();
        Edge.edge(28, "of great ones", z.verdict(), 1);
        SlackProofs u = Due.read("p0,24;n1,25;g49;");
        most = Edge.timesToTheGreatest(u, 0);
        Edge.edge(28, "a degree as great as the greatest sum", u.sum(most) - u.degree(most) + u.verdict(), 0);
    }

    private static void verdictOver() {
        SlackProofs x = Due.read("g1;p0,2;n1,2;g0;");
        x.times(1, Edge.MAX);
        x.times(2, Edge.MAX);
        Edge.edge(28, "OVER behind one that would tell", x.verdict(), Edge.OVER);
        Edge.edge(28, "status OVER", x.status(), 6);
        SlackProofs y = Due.read("p0,2;n1,2;g0;");
        y.times(0, Edge.MAX);
        y.times(1, Edge.MAX);
        y.image(0);
        Edge.edge(28, "OVER", y.verdict(), Edge.OVER);
        y.remove(2);
        Edge.edge(28, "not by what is removed", y.verdict(), 0);
        Edge.edge(28, "status 0", y.status(), 0);
        y.restore(0);
        Edge.edge(28, "OVER again", y.verdict(), Edge.OVER);
        x.verdict();
        SlackProofs z = new SlackProofs();
        z.row(0, 0, -1);
        z.verdict();
        Edge.edge(28, "STATE leaves the status", z.status(), 4);
    }

    private static void prices() {
        SlackProofs x = Due.read("g0;m0,1;m7,9;");
        for (int v : new int[] {-1, 8, 9, 32, Edge.MIN, Edge.MAX}) {
            Edge.edge(29, "BAD: " + v, x.price(v), Edge.BAD);
        }
        Edge.edge(29, "the least", x.price(0), 1);
        Edge.edge(29, "the greatest", x.price(7), 9);
        for (int v = 1; v < 7; v++) {
            Edge.edge(29, "none", x.price(v), 0);
        }
        SlackProofs y = new SlackProofs();
        Edge.edge(29, "no formula: none", y.price(7), 0);
        Edge.edge(29, "no formula: BAD", y.price(8), Edge.BAD);
    }

    private static void imageRefusals() {
        SlackProofs x = new SlackProofs();
        for (int k : new int[] {-1, 2, 3, Edge.MIN, Edge.MAX}) {
            Edge.edge(30, "BAD ahead of STATE: " + k, x.image(k), Edge.BAD);
            Edge.edge(31, "BAD ahead of STATE: " + k, x.restore(k), Edge.BAD);
        }
        for (int k = 0; k < 2; k++) {
            Edge.edge(30, "STATE: no formula", x.image(k), Edge.STATE);
            Edge.edge(31, "STATE: none was kept", x.restore(k), Edge.STATE);
        }
        Due.feed(x, "g0;");
        x.formula();
        Edge.edge(31, "STATE: none was kept yet", x.restore(0), Edge.STATE);
        Edge.edge(30, "image 1", x.image(1), 1);
        Edge.edge(31, "STATE: the other was not kept", x.restore(0), Edge.STATE);
        Edge.edge(31, "restore 1", x.restore(1), 1);
        for (int k : new int[] {-1, 2, 3, Edge.MIN, Edge.MAX}) {
            Edge.edge(30, "BAD: " + k, x.image(k), Edge.BAD);
            Edge.edge(31, "BAD: " + k, x.restore(k), Edge.BAD);
        }
        x.as(0, 5);
        x.image(0);
        x.restore(0);
        Edge.edge(31, "the status stays", x.status(), 3);
    }

    private static void imageKeeps() {
        SlackProofs x = Edge.full();
        x.remove(3);
        Edge.edge(30, "29 are live", x.image(0), 29);
        Edge.edge(30, "an image is no act", x.undo(), 11);
        Edge.edge(30, "all 30 are live", x.image(1), 30);
        Due.feed(x, "g9;");
        x.formula();
        Edge.edge(31, "29 were live", x.restore(0), 29);
        Edge.edge(31, "which", x.count(3), ((1 << 30) - 1) ^ 8);
        Edge.edge(31, "30 numbers are used", x.count(2), 30);
        Edge.edge(31, "FULL", x.axiom(0, 0), Edge.FULL);
        Edge.edge(31, "30 were live", x.restore(1), 30);
        Edge.edgeTold(31, x, 0, "9x0 4~x1 >= 5");
        Edge.edgeTold(31, x, 29, "1x0 >= 0");
        imageKeepsKinds();
        SlackProofs y = Due.read("g0;m0,1;");
        y.image(0);
        y.solution(1);
        Edge.edge(30, "anew, in place of what was kept", y.image(0), 2);
        y.undo();
        Edge.edge(31, "the latest", y.restore(0), 2);
        Edge.edge(31, "its best", y.count(4), 1);
    }

    private static void imageKeepsKinds() {
        SlackProofs x = Edge.ofAllKinds();
        x.image(1);
        Due.feed(x, Edge.times("p7,1;g1;", 8));
        x.formula();
        Edge.edge(30, "eight given ones", x.image(0), 8);
        x.restore(1);
        for (int a = 0; a < 5; a++) {
            Edge.edge(31, "the kind of " + a, x.kind(a), a + 1);
        }
        x.restore(0);
        for (int a = 0; a < 8; a++) {
            Edge.edge(31, "all are given", x.kind(a), 1);
        }
    }

    private static void restoreKeeps() {
        SlackProofs x = Due.read("p0,2;g1;m0,3;");
        x.image(0);
        x.times(0, 5);
        x.solution(1);
        x.image(1);
        x.row(0, 0, 5);
        Due.feed(x, "p9");
        x.claim();
        x.ask(0, 1);
        Due.feed(x, "g3");
        Edge.edge(31, "one", x.restore(0), 1);
        Edge.edge(31, "no best", x.count(4), Edge.NONE);
        Edge.edge(31, "one number", x.count(2), 1);
        Edge.edge(31, "no act can be undone", x.count(6), 0);
        Edge.edge(31, "no act can be undone", x.undo(), Edge.STATE);
        Edge.edge(31, "the tape stays", x.count(7), 2);
        Edge.edge(31, "rows stay", x.count(0), 1);
        Edge.edge(31, "the trace stays", x.trace(0), 21);
        Edge.edge(31, "the fault stays", x.fault(), 2);
        Edge.edge(31, "the next number", x.axiom(4, 0), 1);
        Edge.edgeTold(31, x, 1, "1~x4 >= 0");
        Edge.edge(31, "the other image", x.restore(1), 3);
        Edge.edgeTold(31, x, 1, "10x0 >= 5");
        Edge.edge(31, "its kind", x.kind(2), 3);
        Edge.edge(31, "its best", x.count(4), 3);
        x.remove(1);
        x.axiom(0, 1);
        Edge.edge(31, "it can be restored again", x.restore(1), 3);
        Edge.edge(31, "as it was kept", x.count(3), 7);
        Edge.edge(31, "and the first, too", x.restore(0), 1);
    }
}
