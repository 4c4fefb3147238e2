/** Promises 16 to 19: witnesses, solutions, removing, undoing. */
public final class WitnessTest {
    private static final int MOST = Integer.MAX_VALUE;

    public static void main(String[] args) {
        witness();
        witnessThatMerges();
        witnessOfUntouched();
        witnessWithPrices();
        witnessRefused();
        solution();
        solutionRefused();
        remove();
        undo();
        Due.end("WitnessTest");
    }

    /** Items of row 0: what is put for the variables in turn. */
    private static void put(SlackProofs x, int... items) {
        x.row(0, 2, 8);
        for (int v = 0; v < items.length; v++) {
            x.set(0, v, items[v]);
        }
    }

    private static void putNothing(SlackProofs x) {
        put(x, 2, 3, 4, 5, 6, 7, 8, 9);
    }

    private static void witness() {
        SlackProofs x = Due.read("p0,1;p1,1;g1;");
        putNothing(x);
        Due.due("without a change", Due.witness(x, "p0,1;g1;", 0), SlackProofs.NONE);
        Due.due("status", x.status(), 0);
        x.set(0, 0, 1);
        Due.due("x0 is 1", Due.witness(x, "p0,1;g1;", 0), 1);
        Due.dueTold(x, 1, "1x0 >= 1");
        Due.due("kind", x.kind(1), 5);
        x.set(0, 0, 0);
        Due.due("x0 is 0 does not keep the claim", Due.witness(x, "n0,1;g1;", 0), SlackProofs.NONE);
        SlackProofs y = Due.read("p0,1;p1,1;g1;n0,1;n1,1;g1;");
        put(y, 3, 2, 4, 5, 6, 7, 8, 9);
        Due.due("changed places", Due.witness(y, "p0,1;n1,1;g1;", 0), 2);
        Due.dueTold(y, 2, "1x0 1~x1 >= 1");
        SlackProofs z = Due.read("p0,1;p1,1;g1;n0,1;n1,1;g1;");
        put(z, 10, 11, 4, 5, 6, 7, 8, 9);
        Due.due("contraries", Due.witness(z, "p0,1;g1;", 0), 2);
        Due.due("not again", Due.witness(z, "n0,1;g1;", 0), SlackProofs.NONE);
    }

    /** x1 put for x0: 2x0 3~x1 cancels to 1~x1 >= 1 less 2. */
    private static void witnessThatMerges() {
        SlackProofs x = Due.read("p0,2;n1,3;p2,1;g3;");
        put(x, 3, 3, 1, 5, 6, 7, 8, 9);
        Due.due("degree is driven to 0", Due.witness(x, "p2,1;g1;", 0), 1);
        SlackProofs y = Due.read("p0,2;n1,3;p2,1;g4;");
        put(y, 3, 3, 1, 5, 6, 7, 8, 9);
        Due.due("1~x1 >= 1 is left and forced", Due.witness(y, "p2,1;g1;", 0), 1);
        SlackProofs u = Due.read("p0,2;n1,1;p2,1;g3;");
        put(u, 3, 3, 1, 5, 6, 7, 8, 9);
        Due.due("1x1 >= 1 is left", Due.witness(u, "p2,1;g1;", 0), SlackProofs.NONE);
        SlackProofs z = Due.read("p0,2;p1,3;n2,4;g5;");
        put(z, 4, 4, 4, 5, 6, 7, 8, 9);
        Due.due("like ones together first: 1x2 >= 1", Due.witness(z, "p2,1;g1;", 0),
                SlackProofs.NONE);
        put(z, 4, 4, 1, 5, 6, 7, 8, 9);
        Due.due("5x2 >= 5, ~x2 left out", Due.witness(z, "n0,1;p2,1;g1;", 0), SlackProofs.NONE);
    }

    /** What the witness does not touch must follow by what is forced, as any other clause. */
    private static void witnessOfUntouched() {
        SlackProofs x = Due.read("p0,1;p1,1;p2,1;g2;");
        put(x, 2, 3, 4, 1, 6, 7, 8, 9);
        Due.due("two of three", Due.witness(x, "p3,1;g1;", 0), SlackProofs.NONE);
        SlackProofs y = Due.read("p0,1;p1,1;p2,1;g1;");
        put(y, 2, 3, 4, 1, 6, 7, 8, 9);
        Due.due("one of three", Due.witness(y, "p3,1;g1;", 0), 1);
    }

    private static void witnessWithPrices() {
        SlackProofs x = Due.read("p0,1;p1,1;g1;m0,3;m1,2;");
        put(x, 0, 1, 4, 5, 6, 7, 8, 9);
        Due.due("cheaper, as the contrary says x0", Due.witness(x, "n0,1;g1;", 0), 1);
        SlackProofs y = Due.read("p0,1;p1,1;g1;m0,2;m1,3;");
        put(y, 0, 1, 4, 5, 6, 7, 8, 9);
        Due.due("dearer", Due.witness(y, "n0,1;g1;", 0), SlackProofs.NONE);
        SlackProofs z = Due.read("p0,1;p1,1;g1;n0,1;n1,1;g1;m0,2;m1,2;");
        put(z, 3, 2, 4, 5, 6, 7, 8, 9);
        Due.due("as dear", Due.witness(z, "p0,1;n1,1;g1;", 0), 2);
        SlackProofs u = Due.read("p0,1;p1,1;g1;n0,1;n1,1;g1;m0,2;m1,1;");
        put(u, 3, 2, 4, 5, 6, 7, 8, 9);
        Due.due("x0 for x1 is dearer", Due.witness(u, "p0,1;n1,1;g1;", 0), SlackProofs.NONE);
        SlackProofs w = Due.read("g0;m3,1;");
        put(w, 2, 3, 4, 0, 6, 7, 8, 9);
        Due.due("a price saved", Due.witness(w, "n3,1;g1;", 0), 1);
        SlackProofs t = Due.read("g0;m3,1;");
        put(t, 2, 3, 4, 13, 6, 7, 8, 9);
        Due.due("turned over to the dearer", Due.witness(t, "p3,1;g1;", 0), SlackProofs.NONE);
        Due.due("turned over to the cheaper", Due.witness(t, "n3,1;g1;", 0), 1);
    }

    private static void witnessRefused() {
        SlackProofs x = new SlackProofs();
        Due.due("STATE", Due.witness(x, "g0;", 9), SlackProofs.STATE);
        Due.due("formula", x.formula(), 1);
        Due.due("BAD", Due.witness(x, "g", -1), SlackProofs.BAD);
        Due.due("BAD 8", x.witness(8), SlackProofs.BAD);
        Due.due("NULL", x.witness(0), -1000011);
        Due.due("status NULL", x.status(), 1);
        x.row(0, 1, 7);
        Due.due("seven items", x.witness(0), -1000012);
        x.row(0, 1, 8);
        x.set(0, 7, 18);
        Due.due("item 18", x.witness(0), -1000012);
        x.set(0, 7, -1);
        Due.due("item -1", x.witness(0), -1000012);
        Due.due("status PLACE", x.status(), 2);
        Due.due("the tape stays", x.count(7), 1);
        x.set(0, 7, 17);
        Due.due("a fault", x.witness(0), -1000101);
        Due.due("status 0 of set", x.status(), 0);
        Due.due("the tape was read", x.count(7), 0);
        x.row(0, 0, 40);
        x.set(0, 8, 99);
        Due.due("items behind are free", Due.witness(x, "g0;", 0), 1);
        SlackProofs y = Due.read("p0,2;n1,2;g1;");
        y.times(0, MOST);
        y.times(1, MOST);
        putNothing(y);
        Due.due("OVER", Due.witness(y, "g0;", 0), -1000016);
        Due.due("the tape was read", y.count(7), 0);
    }

    private static void solution() {
        SlackProofs x = Due.read("p0,1;p1,1;g1;m0,3;m1,2;m7,9;");
        Due.due("none", x.solution(0), SlackProofs.NONE);
        Due.due("no act", x.count(6), 0);
        Due.due("3 and 2", x.solution(3), 5);
        Due.due("best", x.count(4), 5);
        Due.dueTold(x, 1, "3~x0 2~x1 9~x7 >= 10");
        Due.due("kind", x.kind(1), 3);
        Due.due("not better", x.solution(3), SlackProofs.NONE);
        Due.due("better", x.solution(2), 2);
        Due.dueTold(x, 2, "3~x0 2~x1 9~x7 >= 13");
        Due.due("open", x.verdict(), 0);
        Due.due("none is left", x.solutions(0), 0);
        Due.due("a proof of it", Due.claim(x, "g1;"), 3);
        Due.due("best is least", x.verdict(), 2);
        SlackProofs y = Due.read("p0,1;p1,1;g1;");
        Due.due("without prices", y.solution(1), 0);
        Due.due("best 0", y.count(4), 0);
        Due.due("nothing came", y.count(2), 1);
        Due.due("an act", y.count(6), 1);
        Due.due("undone", y.undo(), 0);
        Due.due("no best", y.count(4), SlackProofs.NONE);
    }

    private static void solutionRefused() {
        SlackProofs x = new SlackProofs();
        Due.due("STATE", x.solution(256), SlackProofs.STATE);
        SlackProofs y = Due.read("p0,2;n1,2;g1;m0,1;");
        Due.due("BAD 256", y.solution(256), SlackProofs.BAD);
        Due.due("BAD -1", y.solution(-1), SlackProofs.BAD);
        y.times(0, MOST);
        y.times(1, MOST);
        Due.due("OVER ahead of NONE", y.solution(2), -1000016);
        Due.due("status", y.status(), 6);
        for (int i = 3; i < 30; i++) {
            y.axiom(0, 1);
        }
        Due.due("FULL ahead of OVER", y.solution(2), SlackProofs.FULL);
        Due.due("status stays", y.status(), 6);
        Due.due("BAD ahead of FULL", y.solution(256), SlackProofs.BAD);
    }

    private static void remove() {
        SlackProofs x = Due.read("p0,1;p1,1;g1;p0,1;p1,1;p2,1;g1;m2,1;");
        Due.due("not needed", x.remove(1), 1);
        Due.due("not live", x.remove(1), SlackProofs.BAD);
        Due.due("needed", x.remove(0), SlackProofs.NONE);
        Due.due("status", x.status(), 0);
        Due.due("degree of a removed one", x.degree(1), SlackProofs.BAD);
        Due.due("kind of a removed one", x.kind(1), SlackProofs.BAD);
        Due.due("ask of a removed one", x.ask(1, 0), SlackProofs.BAD);
        Due.due("plus of a removed one", x.plus(0, 1), SlackProofs.BAD);
        Due.due("times", x.times(0, 3), 2);
        Due.due("derived", x.remove(2), 1);
        Due.due("axiom", x.axiom(0, 1), 3);
        Due.due("an axiom follows", x.remove(3), 1);
        Due.due("a solution", x.solution(1), 0);
        Due.due("a bound is needed", x.remove(4), SlackProofs.NONE);
        Due.due("claimed", Due.claim(x, "n2,1;g1;"), 5);
        Due.due("removed always", x.remove(5), 2);
        Due.due("live", x.count(3), 1 | 1 << 4);
        SlackProofs y = Due.read("p0,2;n1,2;g1;");
        y.times(0, MOST);
        y.times(1, MOST);
        Due.due("OVER of a given one", y.remove(0), -1000016);
        Due.due("status", y.status(), 6);
        Due.due("a derived one goes", y.remove(1), 2);
        Due.due("itself beyond", y.remove(2), 1);
        Due.due("STATE", new SlackProofs().remove(0), SlackProofs.STATE);
        Due.due("BAD", y.remove(-1), SlackProofs.BAD);
    }

    private static void undo() {
        SlackProofs x = Due.read("p0,1;p1,1;g1;m0,3;m1,2;");
        x.solution(1);
        x.solution(2);
        x.times(0, 5);
        x.remove(3);
        Due.due("acts", x.count(6), 4);
        Due.due("undo remove", x.undo(), 3);
        Due.dueTold(x, 3, "5x0 5x1 >= 5");
        Due.due("undo times", x.undo(), 2);
        Due.due("numbers", x.count(2), 3);
        Due.due("undo solution", x.undo(), 1);
        Due.due("best", x.count(4), 3);
        Due.due("live", x.count(3), 3);
        Due.due("its number comes again", x.axiom(6, 0), 2);
        x.undo();
        Due.due("the first", x.undo(), 0);
        Due.due("no best", x.count(4), SlackProofs.NONE);
        Due.due("STATE", x.undo(), SlackProofs.STATE);
        for (int i = 0; i < 14; i++) {
            x.axiom(i % 8, 1);
        }
        Due.due("12 are kept", x.count(6), 12);
        for (int i = 11; i >= 0; i--) {
            Due.due("undo", x.undo(), i);
        }
        Due.due("the oldest are forgotten", x.undo(), SlackProofs.STATE);
        Due.due("they stand", x.count(2), 3);
    }
}
