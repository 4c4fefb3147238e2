/** Promises 9 to 19: the steps, and undoing them. */
public final class StepsTest {
    private static final int MOST = Integer.MAX_VALUE;
    private static final long SQUARE = (long) MOST * MOST;

    public static void main(String[] args) {
        plus();
        plusBeyond();
        theGreatestLong();
        times();
        split();
        saturate();
        weaken();
        axiom();
        refusalsOfSteps();
        claim();
        claimRefused();
        Due.end("StepsTest");
    }

    private static void plus() {
        SlackProofs x = Due.read("p0,2;n1,3;p2,1;g3;n0,2;p1,5;p3,4;g2;n0,9;n2,9;g1;");
        Due.due("plus", x.plus(0, 1), 3);
        Due.dueTold(x, 3, "2x1 1x2 4x3 >= 0");
        Due.due("plus itself", x.plus(0, 0), 4);
        Due.dueTold(x, 4, "4x0 6~x1 2x2 >= 6");
        Due.due("plus the other way", x.plus(1, 0), 5);
        Due.dueTold(x, 5, "2x1 1x2 4x3 >= 0");
        Due.due("degree below 0", x.plus(0, 2), 6);
        Due.dueTold(x, 6, "7~x0 3~x1 8~x2 >= 1");
        Due.due("degree far below 0", x.plus(2, 4), 7);
        Due.dueTold(x, 7, "5~x0 6~x1 7~x2 >= 1");
        Due.due("kind", x.kind(7), 4);
        Due.due("plus(8,0)", x.plus(8, 0), SlackProofs.BAD);
        Due.due("plus(0,-1)", x.plus(0, -1), SlackProofs.BAD);
        SlackProofs y = Due.read("p0,9;p1,9;g1;n0,9;n1,8;g1;");
        Due.due("all sinks", y.plus(0, 1), 2);
        Due.dueTold(y, 2, "1x1 >= 0");
    }

    /** Twice the square of the greatest int is a long, three times it is not. */
    private static void plusBeyond() {
        SlackProofs x = Due.read("p0,2;n1,2;g0;p0,1;g2;n0,2;p1,2;g0;");
        for (int a = 0; a < 3; a++) {
            x.times(a, MOST);
            x.times(x.count(2) - 1, MOST);
        }
        Due.due("coefficient 4", x.coefficient(4, 1), -2 * SQUARE);
        Due.due("coefficients beyond", x.plus(4, 4), -1000016);
        Due.due("status OVER", x.status(), 6);
        Due.due("nothing came", x.count(2), 9);
        Due.due("no act", x.count(6), 6);
        Due.due("degrees beyond", x.plus(6, 6), -1000016);
        Due.due("they cancel", x.plus(4, 8), 9);
        Due.dueTold(x, 9, ">= 0");
        Due.due("status 0", x.status(), 0);
        Due.due("a sum beyond is no coefficient beyond", x.plus(8, 9), 10);
        Due.due("sum beyond", x.sum(10), -1000016);
        plusAtTheEdge();
    }

    private static void plusAtTheEdge() {
        SlackProofs x = Due.read("n0,2;g0;n0,1;g0;p0,1;g1;");
        x.times(0, 1 << 30);
        x.times(3, 1 << 30);
        x.times(4, 2);
        Due.due("2 to the 62", x.coefficient(5, 0), -(1L << 62));
        Due.due("2 to the 63 is beyond, of a contrary too", x.plus(5, 5), -1000016);
        x.times(2, 1 << 30);
        x.times(6, 1 << 30);
        x.times(7, 4);
        Due.due("degrees together", x.plus(8, 8), -1000016);
        Due.due("greater less lesser", x.plus(8, 5), 9);
        Due.dueTold(x, 9, ">= 0");
    }

    /** 49 times these factors is the greatest long. */
    static int timesToTheGreatest(SlackProofs x, int a) {
        return x.times(x.times(x.times(a, 73 * 127 * 337), 92737), 649657);
    }

    private static void theGreatestLong() {
        SlackProofs x = Due.read("n0,49;g49;p1,24;g24;p1,25;g25;p2,24;n3,25;g1;");
        int whole = timesToTheGreatest(x, 0);
        Due.dueTold(x, whole, Long.MAX_VALUE + "~x0 >= " + Long.MAX_VALUE);
        Due.due("its sum", x.sum(whole), Long.MAX_VALUE);
        Due.due("its slack", x.slack(whole, 1, 1), -Long.MAX_VALUE);
        Due.due("once", x.times(whole, 1), whole + 1);
        Due.due("twice", x.times(whole, 2), -1000016);
        int less = timesToTheGreatest(x, 1);
        int more = timesToTheGreatest(x, 2);
        int both = x.plus(less, more);
        Due.dueTold(x, both, Long.MAX_VALUE + "x1 >= " + Long.MAX_VALUE);
        Due.due("one more of a degree", x.plus(both, 0), -1000016);
        Due.due("one more of a coefficient", x.plus(both, x.axiom(1, 1)), -1000016);
        int two = timesToTheGreatest(x, 3);
        Due.due("a sum of two", x.sum(two), Long.MAX_VALUE);
        Due.due("what is forced", x.forced(0, 0, 2), 2);
        Due.due("how often it holds", x.holds(two), 192);
        Due.due("it does not follow but by itself", x.follows(two), 1);
    }

    private static void times() {
        SlackProofs x = Due.read("p0,2;n1,3;g4;");
        Due.due("times 1", x.times(0, 1), 1);
        Due.due("times 7", x.times(0, 7), 2);
        Due.dueTold(x, 2, "14x0 21~x1 >= 28");
        Due.due("times 0", x.times(0, 0), SlackProofs.BAD);
        Due.due("times -1", x.times(0, -1), SlackProofs.BAD);
        Due.due("times(3)", x.times(3, 1), SlackProofs.BAD);
        Due.due("times most", x.times(0, MOST), 3);
        Due.dueTold(x, 3, 2L * MOST + "x0 " + 3L * MOST + "~x1 >= " + 4L * MOST);
        Due.due("beyond", x.times(3, MOST), -1000016);
        Due.due("status", x.status(), 6);
        Due.due("kind", x.kind(3), 4);
        SlackProofs y = Due.read("n7,4;g0;g4;");
        y.times(0, 1 << 30);
        Due.due("2 to the 62", y.times(2, 1 << 30), 3);
        Due.due("2 to the 63 is beyond, of the contrary too", y.times(3, 2), -1000016);
        y.times(1, 1 << 30);
        y.times(4, 1 << 30);
        Due.due("a degree alone", y.times(5, 2), -1000016);
        Due.due("status 6", y.status(), 6);
        Due.due("times 1 goes", y.times(5, 1), 6);
        Due.due("status 0", y.status(), 0);
    }

    private static void split() {
        SlackProofs x = Due.read("p0,9;n1,10;p2,11;n3,1;g12;g0;");
        Due.due("split 5", x.split(0, 5), 2);
        Due.dueTold(x, 2, "2x0 2~x1 3x2 1~x3 >= 3");
        Due.due("split 1", x.split(0, 1), 3);
        Due.dueTold(x, 3, "9x0 10~x1 11x2 1~x3 >= 12");
        Due.due("split most", x.split(0, MOST), 4);
        Due.dueTold(x, 4, "1x0 1~x1 1x2 1~x3 >= 1");
        Due.due("split of nothing", x.split(1, 9), 5);
        Due.dueTold(x, 5, ">= 0");
        Due.due("split 0", x.split(0, 0), SlackProofs.BAD);
        Due.due("split min", x.split(0, Integer.MIN_VALUE), SlackProofs.BAD);
        Due.due("split(6)", x.split(6, 1), SlackProofs.BAD);
        Due.due("kind", x.kind(5), 4);
        SlackProofs y = Due.read("p0,2;n1,2;g2;");
        y.times(0, MOST);
        y.times(1, MOST);
        Due.due("split of much", y.split(2, MOST), 3);
        Due.dueTold(y, 3, 2L * MOST + "x0 " + 2L * MOST + "~x1 >= " + 2L * MOST);
        y.split(2, 2);
        Due.due("half", y.degree(4), SQUARE);
        y.split(2, 4);
        Due.due("a quarter, rounded up", y.coefficient(5, 1), -(SQUARE / 2 + 1));
    }

    private static void saturate() {
        SlackProofs x = Due.read("p0,9;n1,4;n2,5;p3,1;g4;p0,1;n1,1;g0;");
        Due.due("saturate", x.saturate(0), 2);
        Due.dueTold(x, 2, "4x0 4~x1 4~x2 1x3 >= 4");
        Due.due("saturate 0", x.saturate(1), 3);
        Due.dueTold(x, 3, ">= 0");
        Due.due("saturate(4)", x.saturate(4), SlackProofs.BAD);
        Due.due("kind", x.kind(3), 4);
    }

    private static void weaken() {
        SlackProofs x = Due.read("p0,9;n1,4;g5;");
        Due.due("weaken 1", x.weaken(0, 1), 1);
        Due.dueTold(x, 1, "9x0 >= 1");
        Due.due("weaken 0", x.weaken(0, 0), 2);
        Due.dueTold(x, 2, "4~x1 >= 0");
        Due.due("not in it", x.weaken(0, 2), SlackProofs.BAD);
        Due.due("no more in it", x.weaken(1, 1), SlackProofs.BAD);
        Due.due("variable -1", x.weaken(0, -1), SlackProofs.BAD);
        Due.due("variable 8", x.weaken(0, 8), SlackProofs.BAD);
        Due.due("weaken(3)", x.weaken(3, 0), SlackProofs.BAD);
        Due.due("kind", x.kind(2), 4);
    }

    private static void axiom() {
        SlackProofs x = Due.read("p0,9;n1,4;g5;");
        Due.due("axiom x7", x.axiom(7, 1), 1);
        Due.dueTold(x, 1, "1x7 >= 0");
        Due.due("axiom ~x0", x.axiom(0, 0), 2);
        Due.dueTold(x, 2, "1~x0 >= 0");
        Due.due("kind", x.kind(2), 2);
        Due.due("which 2", x.axiom(0, 2), SlackProofs.BAD);
        Due.due("which -1", x.axiom(0, -1), SlackProofs.BAD);
        Due.due("variable 8", x.axiom(8, 0), SlackProofs.BAD);
        Due.due("variable -1", x.axiom(-1, 0), SlackProofs.BAD);
        SlackProofs y = Due.read("p0,9;n1,4;g5;");
        y.saturate(0);
        y.undo();
        Due.due("where another clause was", y.axiom(2, 1), 1);
        Due.dueTold(y, 1, "1x2 >= 0");
    }

    private static void refusalsOfSteps() {
        SlackProofs x = Due.read("p0,9;n1,4;g5;");
        for (int i = 1; i < 30; i++) {
            Due.due("axiom", x.axiom(0, 1), i);
        }
        x.sum(0);
        Due.due("FULL plus", x.plus(0, 0), SlackProofs.FULL);
        Due.due("FULL times", x.times(0, 2), SlackProofs.FULL);
        Due.due("FULL split", x.split(0, 2), SlackProofs.FULL);
        Due.due("FULL saturate", x.saturate(0), SlackProofs.FULL);
        Due.due("FULL weaken", x.weaken(0, 0), SlackProofs.FULL);
        Due.due("FULL axiom", x.axiom(0, 0), SlackProofs.FULL);
        Due.due("BAD ahead of FULL", x.plus(30, 0), SlackProofs.BAD);
        Due.due("BAD times", x.times(0, 0), SlackProofs.BAD);
        Due.due("BAD weaken", x.weaken(0, 2), SlackProofs.BAD);
        Due.due("FAULT ahead of FULL", Due.claim(x, "g"), -1000101);
        Due.due("FULL claim", Due.claim(x, "p5,1;g1;"), SlackProofs.FULL);
        Due.due("the tape was read", x.count(7), 0);
        Due.due("removed", x.remove(29), 29);
        Due.due("numbers stay used", x.count(2), 30);
        Due.due("FULL yet", x.axiom(0, 0), SlackProofs.FULL);
        Due.due("solution without prices", x.solution(1), 0);
        Due.due("acts", x.count(6), 12);
        x.undo();
        x.undo();
        Due.due("a number is free by undoing", x.undo(), 9);
        Due.due("axiom again", x.axiom(0, 0), 29);
        Due.due("all live", x.count(3), (1 << 30) - 1);
    }

    private static void claim() {
        SlackProofs x = Due.read("p0,1;p1,1;g1;p0,1;n1,1;g1;");
        Due.due("claim x0", Due.claim(x, "p0,1;g1;"), 2);
        Due.dueTold(x, 2, "1x0 >= 1");
        Due.due("kind", x.kind(2), 5);
        Due.due("claim x1", Due.claim(x, "p1,1;g1;"), SlackProofs.NONE);
        Due.due("nothing came", x.count(2), 3);
        Due.due("claim of degree 0", Due.claim(x, "n7,9;g0;"), 3);
        Due.due("claim beyond its sum", Due.claim(x, "p0,1;g2;"), SlackProofs.NONE);
        SlackProofs y = Due.read("p0,1;p1,1;p2,1;g2;");
        Due.due("itself is not forced", Due.claim(y, "p0,1;p1,1;p2,1;g2;"), SlackProofs.NONE);
        Due.due("a part is", Due.claim(y, "p0,1;p1,1;g1;"), 1);
        SlackProofs z = Due.read("p0,1;g1;n0,1;g1;");
        Due.due("all follows from what cannot be", Due.claim(z, "g99;"), 2);
        Due.due("verdict", z.verdict(), 1);
        Due.due("acts", z.count(6), 1);
    }

    private static void claimRefused() {
        SlackProofs x = new SlackProofs();
        Due.due("STATE", Due.claim(x, "g0;"), SlackProofs.STATE);
        Due.due("the tape stays", x.count(7), 3);
        Due.due("it is a formula", x.formula(), 1);
        SlackProofs y = Due.read("p0,2;n1,2;g1;");
        y.times(0, MOST);
        y.times(1, MOST);
        Due.due("OVER", Due.claim(y, "g0;"), -1000016);
        Due.due("status", y.status(), 6);
        Due.due("the tape was read", y.count(7), 0);
        Due.due("a fault", Due.claim(y, "g"), -1000101);
        Due.due("status of a fault", y.status(), 6);
        Due.due("removed without its sum", y.remove(2), 2);
        Due.due("status", y.status(), 0);
        Due.due("claim", Due.claim(y, "g0;"), 3);
    }
}
