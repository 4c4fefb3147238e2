/** Promises 20 to 37: what there is, and what is asked. */
public final class AsksTest {
    private static final int MOST = Integer.MAX_VALUE;
    private static final long SQUARE = (long) MOST * MOST;

    public static void main(String[] args) {
        numbers();
        slack();
        forced();
        solutions();
        holdsAndFollows();
        verdict();
        images();
        kinds();
        asks();
        status();
        Due.end("AsksTest");
    }

    /** Clause 2 has a sum beyond a long. */
    private static SlackProofs beyond() {
        SlackProofs x = Due.read("p0,2;n1,2;g1;m0,1;");
        x.times(0, MOST);
        x.times(1, MOST);
        return x;
    }

    private static void numbers() {
        SlackProofs x = beyond();
        Due.due("degree", x.degree(2), SQUARE);
        Due.due("degree(3)", x.degree(3), SlackProofs.BAD);
        Due.due("degree(-1)", x.degree(-1), SlackProofs.BAD);
        Due.due("coefficient", x.coefficient(2, 0), 2 * SQUARE);
        Due.due("of the contrary", x.coefficient(2, 1), -2 * SQUARE);
        Due.due("not in it", x.coefficient(2, 2), 0);
        Due.due("variable 8", x.coefficient(2, 8), SlackProofs.BAD);
        Due.due("variable -1", x.coefficient(2, -1), SlackProofs.BAD);
        Due.due("coefficient(3)", x.coefficient(3, 0), SlackProofs.BAD);
        Due.due("sum", x.sum(1), 4L * MOST);
        Due.due("sum OVER", x.sum(2), -1000016);
        Due.due("status", x.status(), 6);
        Due.due("sum BAD", x.sum(3), SlackProofs.BAD);
        Due.due("status stays", x.status(), 6);
        Due.due("sum of small ones", x.sum(0), 4);
        Due.due("status 0", x.status(), 0);
    }

    private static void slack() {
        SlackProofs x = Due.read("p0,2;n1,3;p2,1;g5;g9;");
        Due.due("nothing known", x.slack(0, 0, 255), 1);
        Due.due("x0 is 1", x.slack(0, 1, 255), 1);
        Due.due("x0 is 0", x.slack(0, 1, 254), -1);
        Due.due("x1 is 1", x.slack(0, 2, 2), -2);
        Due.due("x1 is 0", x.slack(0, 2, 0), 1);
        Due.due("all known", x.slack(0, 255, 2), -5);
        Due.due("of nothing", x.slack(1, 0, 0), -9);
        Due.due("known 256", x.slack(0, 256, 0), SlackProofs.BAD);
        Due.due("known -1", x.slack(0, -1, 0), SlackProofs.BAD);
        Due.due("values 256", x.slack(0, 0, 256), SlackProofs.BAD);
        Due.due("slack(2)", x.slack(2, 0, 0), SlackProofs.BAD);
        SlackProofs y = beyond();
        Due.due("OVER even if little is left", y.slack(2, 255, 2), -1000016);
        Due.due("the others go", y.slack(1, 255, 2), -MOST);
    }

    private static void forced() {
        SlackProofs x = Due.read("n0,1;p1,1;g1;n1,1;p2,1;g1;n2,1;n3,1;g1;");
        Due.due("nothing", x.forced(0, 255, 1), 0);
        Due.due("a chain", x.forced(1, 1, 1), 15);
        Due.due("its ones", x.forced(1, 1, 2), 7);
        Due.due("backwards", x.forced(8, 8, 1), 15);
        Due.due("its ones", x.forced(8, 255, 2), 8);
        Due.due("values that are not known", x.forced(64, 255, 2), 64);
        Due.due("conflict", x.forced(9, 9, 0), 1);
        Due.due("conflict, known", x.forced(9, 9, 1), SlackProofs.NONE);
        Due.due("conflict, ones", x.forced(9, 9, 2), SlackProofs.NONE);
        Due.due("no conflict", x.forced(1, 1, 0), 0);
        Due.due("known 256", x.forced(256, 0, 0), SlackProofs.BAD);
        Due.due("values -1", x.forced(0, -1, 0), SlackProofs.BAD);
        Due.due("what 3", x.forced(0, 0, 3), SlackProofs.BAD);
        Due.due("what -1", x.forced(0, 0, -1), SlackProofs.BAD);
        SlackProofs y = Due.read("p0,3;p1,2;n2,2;g5;");
        Due.due("by weight", y.forced(0, 0, 1), 1);
        Due.due("then the rest", y.forced(2, 0, 2), 1);
        Due.due("then the rest is known", y.forced(2, 0, 1), 7);
        Due.due("a conflict of one", y.forced(1, 0, 0), 1);
        Due.due("OVER", beyond().forced(0, 0, 0), -1000016);
        SlackProofs z = Due.read("g1;");
        Due.due("nothing can be", z.forced(0, 0, 0), 1);
    }

    private static void solutions() {
        SlackProofs x = Due.read("p0,1;p1,1;g1;p6,1;p7,1;g1;m0,2;m1,1;m6,4;m7,4;");
        Due.due("how many", x.solutions(0), 9 * 16);
        Due.due("least price", x.solutions(1), 5);
        Due.due("the first of it", x.solutions(2), 2 + 64);
        Due.due("what 3", x.solutions(3), SlackProofs.BAD);
        Due.due("what -1", x.solutions(-1), SlackProofs.BAD);
        SlackProofs y = Due.read("g1;");
        Due.due("none", y.solutions(0), 0);
        Due.due("no price", y.solutions(1), SlackProofs.NONE);
        Due.due("no first", y.solutions(2), SlackProofs.NONE);
        SlackProofs z = Due.read("g0;m0,1;");
        Due.due("all", z.solutions(0), 256);
        Due.due("price 0", z.solutions(1), 0);
        Due.due("values 0", z.solutions(2), 0);
        Due.due("OVER", beyond().solutions(0), -1000016);
    }

    private static void holdsAndFollows() {
        SlackProofs x = Due.read("p0,1;p1,1;g1;p0,1;p1,1;p2,1;g1;p0,1;p1,1;p2,1;g2;g0;g1;");
        Due.due("holds", x.holds(0), 192);
        Due.due("holds of three", x.holds(1), 224);
        Due.due("two of three", x.holds(2), 128);
        Due.due("always", x.holds(3), 256);
        Due.due("never", x.holds(4), 0);
        Due.due("holds(5)", x.holds(5), SlackProofs.BAD);
        Due.due("all follows", x.follows(0), 1);
        Due.due("but the one", x.follows(4), 0);
        Due.due("follows(5)", x.follows(5), SlackProofs.BAD);
        SlackProofs y = beyond();
        Due.due("holds of a small one", y.holds(0), 192);
        Due.due("holds OVER", y.holds(2), -1000016);
        Due.due("follows OVER by another", y.follows(0), -1000016);
        Due.due("status", y.status(), 6);
        Due.due("holds again", y.holds(1), 192);
        Due.due("status", y.status(), 0);
        Due.due("new follows", new SlackProofs().follows(0), SlackProofs.BAD);
        SlackProofs z = Due.read("p0,1;g1;p0,2;g0;");
        Due.due("degree 0", z.follows(1), 1);
        Due.due("not by that", z.follows(0), 0);
    }

    private static void verdict() {
        SlackProofs x = Due.read("p0,1;g1;n0,1;g1;");
        Due.due("open", x.verdict(), 0);
        Due.due("plus", x.plus(0, 1), 2);
        Due.due("no solution", x.verdict(), 1);
        Due.due("status", x.status(), 0);
        x.remove(2);
        Due.due("open again", x.verdict(), 0);
        SlackProofs y = Due.read("p0,3;g4;p0,2;n1,2;g0;");
        Due.due("degree above sum", y.verdict(), 1);
        y.times(1, MOST);
        y.times(2, MOST);
        Due.due("hides nothing", y.verdict(), -1000016);
        Due.due("status", y.status(), 6);
        SlackProofs z = Due.read("p0,3;g3;");
        Due.due("as much as the sum is open", z.verdict(), 0);
        z.solution(1);
        Due.due("a best is not enough", z.verdict(), 0);
    }

    private static void images() {
        SlackProofs x = Due.read("p0,1;p1,1;g1;m0,3;");
        x.times(0, 2);
        x.solution(1);
        Due.due("image", x.image(1), 3);
        x.remove(1);
        x.undo();
        x.undo();
        x.axiom(3, 0);
        Due.feed(x, "n5,1;g1;m5,5;");
        Due.due("another formula", x.formula(), 1);
        Due.due("image 0", x.image(0), 1);
        x.axiom(0, 0);
        Due.due("restore", x.restore(1), 3);
        Due.dueTold(x, 1, "2x0 2x1 >= 2");
        Due.dueTold(x, 2, "3~x0 >= 1");
        Due.due("kind", x.kind(2), 3);
        Due.due("price", x.price(0), 3);
        Due.due("price of the other", x.price(5), 0);
        Due.due("best", x.count(4), 3);
        Due.due("numbers", x.count(2), 3);
        Due.due("no act", x.count(6), 0);
        Due.due("undo", x.undo(), SlackProofs.STATE);
        x.remove(1);
        Due.due("an image is not what goes on", x.restore(1), 3);
        Due.due("restore 0", x.restore(0), 1);
        Due.dueTold(x, 0, "1~x5 >= 1");
        Due.due("no best", x.count(4), SlackProofs.NONE);
        Due.due("image 2", x.image(2), SlackProofs.BAD);
        Due.due("image -1", x.image(-1), SlackProofs.BAD);
        Due.due("restore 2", x.restore(2), SlackProofs.BAD);
        SlackProofs y = Due.read("g0;");
        Due.due("none was kept", y.restore(0), SlackProofs.STATE);
    }

    /** Clauses 0 to 4: given, axiom, bound, derived, claimed. */
    private static SlackProofs ofAllKinds() {
        SlackProofs x = Due.read("p3,1;p4,1;g1;m2,3;m3,1;");
        x.axiom(5, 0);
        x.solution(4 + 8);
        x.plus(0, 1);
        Due.claim(x, "p3,1;p4,1;p6,2;g1;");
        return x;
    }

    private static void kinds() {
        SlackProofs x = ofAllKinds();
        int[] kinds = {1, 2, 3, 4, 5};
        int[] taken = {0x03, 0x07, 0x0b, 0x11, 0x31};
        for (int a = 0; a < 5; a++) {
            Due.due("kind(" + a + ")", x.kind(a), kinds[a]);
            for (int kind = 0; kind < 6; kind++) {
                boolean is = (taken[a] >> kind & 1) == 1;
                Due.due("as(" + a + "," + kind + ")", x.as(a, kind), is ? a : -1000013);
                Due.due("status of as", x.status(), is ? 0 : 3);
            }
        }
        Due.due("as 6", x.as(0, 6), SlackProofs.BAD);
        Due.due("as -1", x.as(0, -1), SlackProofs.BAD);
        Due.due("as(5)", x.as(5, 0), SlackProofs.BAD);
        Due.due("kind(5)", x.kind(5), SlackProofs.BAD);
    }

    private static void dueAsk(SlackProofs x, int a, int what, int want, int... trace) {
        Due.due("ask(" + a + "," + what + ")", x.ask(a, what), want);
        for (int i = 0; i < trace.length; i++) {
            Due.due("trace " + i + " of ask(" + a + "," + what + ")", x.trace(i), trace[i]);
        }
        Due.due("end of the trace", x.trace(trace.length), SlackProofs.NONE);
    }

    private static void asks() {
        SlackProofs x = ofAllKinds();
        dueAsk(x, 0, 0, 2 + 3, 11, 10, 21, 20);
        dueAsk(x, 0, 1, 3, 21, 20);
        dueAsk(x, 1, 0, -(1 + 2 * (1 + 5)), 12, 11, 10, 24, 21, 20);
        dueAsk(x, 1, 1, 2 * (1 + 5), 24, 21, 20);
        dueAsk(x, 2, 0, 2 + 2 + 2 - 1000, 11, 10, 22, 21, 20);
        dueAsk(x, 2, 1, 2 + 2 - 1000, 22, 21, 20);
        dueAsk(x, 3, 0, 3 - 100, 13, 10);
        dueAsk(x, 3, 1, 3 - (3 - 100), 23, 20, 13, 10);
        dueAsk(x, 4, 0, 2 * (3 - 100), 14, 13, 10);
        dueAsk(x, 4, 1, 4 - 2 * (3 - 100), 23, 20, 14, 13, 10);
        Due.due("ask what 2", x.ask(0, 2), SlackProofs.BAD);
        Due.due("ask what -1", x.ask(0, -1), SlackProofs.BAD);
        Due.due("ask(5)", x.ask(5, 0), SlackProofs.BAD);
        Due.due("the trace stays", x.trace(4), 10);
        Due.due("trace(-1)", x.trace(-1), SlackProofs.NONE);
        Due.due("trace(16)", x.trace(16), SlackProofs.NONE);
        SlackProofs y = Due.read("g0;");
        dueAsk(y, 0, 0, 0 + 0 + 8, 11, 10, 21, 20);
    }

    /** Calls that are no more than looked at leave the status as it is. */
    private static void status() {
        SlackProofs x = ofAllKinds();
        x.as(0, 5);
        x.degree(0);
        x.coefficient(0, 0);
        x.split(0, 2);
        x.saturate(0);
        x.weaken(0, 3);
        x.axiom(0, 0);
        x.undo();
        x.price(0);
        x.image(0);
        x.restore(0);
        x.kind(0);
        x.ask(0, 0);
        x.trace(0);
        x.count(0);
        x.fault();
        x.feed('g');
        x.formula();
        x.plus(0, 99);
        x.witness(0);
        Due.due("status NULL of witness", x.status(), 1);
        x.as(0, 5);
        x.witness(9);
        Due.due("status KIND", x.status(), 3);
        x.plus(0, 0);
        Due.due("status of plus", x.status(), 0);
        x.as(0, 5);
        x.times(0, 1);
        Due.due("status of times", x.status(), 0);
        x.as(0, 5);
        x.forced(0, 0, 0);
        Due.due("status of forced", x.status(), 0);
        x.as(0, 5);
        x.solution(0);
        Due.due("status of solution", x.status(), 0);
        x.as(0, 5);
        x.verdict();
        Due.due("status of verdict", x.status(), 0);
        statusKept(ofAllKinds());
        statusOfWell();
        statusOfOver();
    }

    /** Calls that end well, of those that status() tells of; text is fed ahead. */
    private static long call(SlackProofs x, int which) {
        switch (which) {
            case 0: return x.row(1, 0, 8);
            case 1: return x.set(0, 1, 3);
            case 2: return x.copy(0, 0, 0, 0, 8);
            case 3: return x.drop(7);
            case 4: return x.as(0, 1);
            case 5: return x.plus(0, 0);
            case 6: return x.times(0, 1);
            case 7: return x.claim();
            case 8: return x.witness(0);
            case 9: return x.solution(8);
            case 10: return x.remove(0);
            case 11: return x.sum(2);
            case 12: return x.slack(2, 0, 0);
            case 13: return x.forced(0, 0, 1);
            case 14: return x.solutions(1);
            case 15: return x.holds(2);
            case 16: return x.follows(0);
            default: return x.verdict();
        }
    }

    private static void statusOfWell() {
        for (int which = 0; which < 18; which++) {
            for (int text = 0; text < 2; text++) {
                SlackProofs x = ofAllKinds();
                x.row(0, 0, 8);
                x.row(7, 0, 8);
                Due.feed(x, text == 0 ? "g0;" : "p7,1;g1;");
                x.as(0, 5);
                Due.due("KIND", x.status(), 3);
                boolean isFound = call(x, which) < SlackProofs.FULL;
                Due.due("call " + which + " is well", isFound ? 1 : 0, 0);
                Due.due("status after call " + which, x.status(), 0);
            }
        }
    }

    private static void statusOfOver() {
        for (int which = 7; which < 18; which++) {
            SlackProofs x = beyond();
            x.row(0, 0, 8);
            Due.feed(x, "g0;");
            Due.due("call " + which + " of what is beyond", call(x, which), -1000016);
            Due.due("status after it", x.status(), 6);
        }
    }

    private static void statusKept(SlackProofs x) {
        x.as(0, 5);
        x.split(0, 2);
        x.saturate(0);
        x.weaken(0, 3);
        x.axiom(0, 0);
        x.undo();
        x.ask(0, 0);
        x.feed('g');
        x.claim();
        x.solution(256);
        x.restore(0);
        Due.due("status kept", x.status(), 3);
    }
}
