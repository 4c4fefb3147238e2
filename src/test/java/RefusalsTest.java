import java.util.List;
import java.util.function.Supplier;
import java.util.function.ToLongFunction;

/** What is refused, or found, changes nothing but the status, and what the document says of the tape. */
public final class RefusalsTest {
    private static final int OWN_STATUS = 4;

    public static void main(String[] args) {
        bad();
        state();
        full();
        findings();
        none();
        faults();
        tapes();
        looks();
        Due.end("RefusalsTest");
    }

    /** A refused call that leaves all, the status, too. */
    private static void leaves(String name, Twin twin, int want, ToLongFunction<SlackProofs> call) {
        becomes(name, twin, twin, want, OWN_STATUS, call);
    }

    private static void becomes(String name, Twin from, Twin to, int want, int status,
            ToLongFunction<SlackProofs> call) {
        SlackProofs x = from.make();
        Due.due(name, call.applyAsLong(x), want);
        Due.due(name + ": status", x.status(), status);
        Supplier<SlackProofs> called = () -> {
            SlackProofs y = from.make();
            call.applyAsLong(y);
            return y;
        };
        List<Long> seen = Twin.seen(called);
        List<Long> due = Twin.seen(to::make);
        Due.due(name + ": as much is seen", seen.size(), due.size());
        for (int i = 0; i < Math.min(seen.size(), due.size()); i++) {
            Due.due(name + ": what is seen, " + i, seen.get(i), due.get(i));
        }
    }

    private static Twin plain() {
        return new Twin().tape("g3;");
    }

    private static void bad() {
        int bad = Edge.BAD;
        leaves("row 8", plain(), bad, x -> x.row(8, 0, 1));
        leaves("row lane", plain(), bad, x -> x.row(0, 3, 1));
        leaves("row 41", plain(), bad, x -> x.row(0, 0, 41));
        leaves("set", plain(), bad, x -> x.set(-1, 0, 1));
        leaves("copy from", plain(), bad, x -> x.copy(8, 0, 0, 0, 1));
        leaves("copy to", plain(), bad, x -> x.copy(0, 0, -1, 0, 1));
        leaves("drop", plain(), bad, x -> x.drop(8));
        leaves("feed -1", plain(), bad, x -> x.feed(-1));
        leaves("feed 256", plain(), bad, x -> x.feed(256));
        leaves("plus", plain(), bad, x -> x.plus(0, 5));
        leaves("plus of none", plain(), bad, x -> x.plus(30, 0));
        leaves("times", plain(), bad, x -> x.times(0, 0));
        leaves("times of none", plain(), bad, x -> x.times(5, 1));
        leaves("split", plain(), bad, x -> x.split(0, 0));
        leaves("saturate", plain(), bad, x -> x.saturate(-1));
        leaves("weaken", plain(), bad, x -> x.weaken(0, 8));
        leaves("weaken by what is not in it", plain(), bad, x -> x.weaken(0, 2));
        leaves("axiom", plain(), bad, x -> x.axiom(8, 0));
        leaves("axiom which", plain(), bad, x -> x.axiom(0, 2));
        leaves("witness", plain(), bad, x -> x.witness(8));
        leaves("solution", plain(), bad, x -> x.solution(256));
        leaves("remove", plain(), bad, x -> x.remove(5));
        leaves("degree", plain(), bad, x -> x.degree(5));
        leaves("coefficient", plain(), bad, x -> x.coefficient(0, 8));
        leaves("sum", plain(), bad, x -> x.sum(5));
        leaves("slack", plain(), bad, x -> x.slack(0, 256, 0));
        leaves("forced", plain(), bad, x -> x.forced(0, 0, 3));
        leaves("solutions", plain(), bad, x -> x.solutions(3));
        leaves("holds", plain(), bad, x -> x.holds(5));
        leaves("follows", plain(), bad, x -> x.follows(5));
        leaves("price", plain(), bad, x -> x.price(8));
        leaves("image", plain(), bad, x -> x.image(2));
        leaves("restore", plain(), bad, x -> x.restore(2));
        leaves("kind", plain(), bad, x -> x.kind(5));
        leaves("as", plain(), bad, x -> x.as(0, 6));
        leaves("ask", plain(), bad, x -> x.ask(0, 2));
        leaves("ask of none", plain(), bad, x -> x.ask(5, 0));
        leaves("count", plain(), bad, x -> x.count(8));
    }

    private static Twin unread() {
        return new Twin().unread().tape("p0,1;g3;");
    }

    private static void state() {
        int state = Edge.STATE;
        leaves("plus", unread(), state, x -> x.plus(0, 0));
        leaves("times", unread(), state, x -> x.times(0, 1));
        leaves("split", unread(), state, x -> x.split(0, 1));
        leaves("saturate", unread(), state, x -> x.saturate(0));
        leaves("weaken", unread(), state, x -> x.weaken(0, 0));
        leaves("axiom", unread(), state, x -> x.axiom(0, 0));
        leaves("claim", unread(), state, x -> x.claim());
        leaves("witness", unread(), state, x -> x.witness(0));
        leaves("solution", unread(), state, x -> x.solution(0));
        leaves("remove", unread(), state, x -> x.remove(0));
        leaves("undo", unread(), state, x -> x.undo());
        leaves("forced", unread(), state, x -> x.forced(0, 0, 0));
        leaves("solutions", unread(), state, x -> x.solutions(0));
        leaves("verdict", unread(), state, x -> x.verdict());
        leaves("image", unread(), state, x -> x.image(0));
        leaves("restore", unread(), state, x -> x.restore(0));
        leaves("restore of the other", plain(), state, x -> x.restore(1));
    }

    private static void full() {
        Twin twin = new Twin().full().tape("g3;");
        int full = Edge.FULL;
        leaves("full: plus", twin, full, x -> x.plus(0, 0));
        leaves("full: times", twin, full, x -> x.times(0, 1));
        leaves("full: split", twin, full, x -> x.split(0, 1));
        leaves("full: saturate", twin, full, x -> x.saturate(0));
        leaves("full: weaken", twin, full, x -> x.weaken(0, 0));
        leaves("full: axiom", twin, full, x -> x.axiom(0, 0));
        leaves("full: solution", twin, full, x -> x.solution(4));
        Twin read = new Twin().full();
        becomes("full: claim", twin, read, full, OWN_STATUS, x -> x.claim());
        becomes("full: witness", twin, read, full, OWN_STATUS, x -> x.witness(0));
        leaves("a full tape", new Twin().tape(Edge.times("g", 200)), full, x -> x.feed('g'));
    }

    private static void finds(String name, Twin twin, int number, ToLongFunction<SlackProofs> call) {
        becomes(name, twin, twin, -1000010 - number, number, call);
    }

    private static void findings() {
        finds("SIZE", plain(), 4, x -> x.row(0, 0, -1));
        finds("SIZE of the least int", plain(), 4, x -> x.row(7, 2, Edge.MIN));
        finds("NULL of set", plain(), 1, x -> x.set(7, 0, 1));
        finds("NULL of copy", plain(), 1, x -> x.copy(0, 0, 7, 0, 1));
        finds("NULL of drop", plain(), 1, x -> x.drop(7));
        finds("NULL of witness", plain(), 1, x -> x.witness(7));
        finds("PLACE of set", plain(), 2, x -> x.set(0, 8, 1));
        finds("PLACE of copy", plain(), 2, x -> x.copy(0, 0, 0, 1, 8));
        finds("PLACE of copy, n below 0", plain(), 2, x -> x.copy(0, 3, 0, 1, -1));
        finds("PLACE of witness: seven", plain(), 2, x -> x.witness(3));
        finds("PLACE of witness: 18", plain(), 2, x -> x.witness(4));
        finds("STORE", plain(), 5, x -> x.copy(0, 0, 1, 0, 8));
        finds("KIND", plain(), 3, x -> x.as(0, 5));
        Twin beyond = new Twin().beyond().tape("g3;");
        int over = 6, great = 7;
        finds("OVER of plus", beyond, over, x -> x.plus(great, great));
        finds("OVER of times", beyond, over, x -> x.times(great, 2));
        finds("OVER of solution", beyond, over, x -> x.solution(4));
        finds("OVER of remove", beyond, over, x -> x.remove(2));
        finds("OVER of sum", beyond, over, x -> x.sum(great));
        finds("OVER of slack", beyond, over, x -> x.slack(great, 0, 0));
        finds("OVER of forced", beyond, over, x -> x.forced(0, 0, 1));
        finds("OVER of solutions", beyond, over, x -> x.solutions(0));
        finds("OVER of holds", beyond, over, x -> x.holds(great));
        finds("OVER of follows", beyond, over, x -> x.follows(0));
        finds("OVER of verdict", beyond, over, x -> x.verdict());
        Twin read = new Twin().beyond();
        becomes("OVER of claim", beyond, read, Edge.OVER, over, x -> x.claim());
        becomes("OVER of witness", beyond, read, Edge.OVER, over, x -> x.witness(0));
    }

    private static void none() {
        Twin twin = new Twin().tape("p7,1;g1;");
        Twin read = new Twin();
        becomes("NONE of claim", twin, read, Edge.NONE, 0, x -> x.claim());
        becomes("NONE of witness", twin, read, Edge.NONE, 0, x -> x.witness(0));
        becomes("NONE of solution", twin, twin, Edge.NONE, 0, x -> x.solution(2));
        becomes("NONE of remove", twin, twin, Edge.NONE, 0, x -> x.remove(0));
        becomes("NONE of forced", twin, twin, Edge.NONE, 0, x -> x.forced(12, 0, 1));
        leaves("NONE of trace", twin, Edge.NONE, x -> x.trace(16));
    }

    /** All stays but the tape and the number of the fault. */
    private static void faults() {
        String[] texts = {"p0,1;g1;m1,1", "p0,1;g1;m8,1;", Edge.times("g9;", 9)};
        int[] places = {12, 9, 24};
        for (int i = 0; i < texts.length; i++) {
            int want = Edge.FAULT - places[i], fault = i + 1;
            Twin from = new Twin().tape(texts[i]);
            Twin to = new Twin().fault(fault);
            becomes("fault of formula " + fault, from, to, want, OWN_STATUS, x -> x.formula());
            becomes("fault of a first formula " + fault, from.copy().unread(), to.copy().unread(), want, OWN_STATUS,
                    x -> x.formula());
            becomes("fault of formula when full " + fault, from.copy().full(), to.copy().full(), want, OWN_STATUS,
                    x -> x.formula());
        }
        Twin claim = new Twin().tape("p0,1;p0,2;g1;");
        Twin read = new Twin().fault(2);
        becomes("fault of claim", claim, read, Edge.FAULT - 6, OWN_STATUS, x -> x.claim());
        becomes("fault of witness", claim, read, Edge.FAULT - 6, OWN_STATUS, x -> x.witness(0));
        becomes("fault of claim when full", claim.copy().full(), read.copy().full(), Edge.FAULT - 6, OWN_STATUS,
                x -> x.claim());
        becomes("fault of claim when beyond", claim.copy().beyond(), read.copy().beyond(), Edge.FAULT - 6, OWN_STATUS,
                x -> x.claim());
    }

    /** The tape stays, byte by byte, where the document says so. */
    private static void tapes() {
        String long200 = Edge.times("p0,1;", 40);
        Twin unread = new Twin().unread().tape(long200);
        leaves("STATE of claim, a full tape", unread, Edge.STATE, x -> x.claim());
        leaves("STATE of witness, a full tape", unread, Edge.STATE, x -> x.witness(0));
        Twin faulty = new Twin().tape("p0,1;g8;x");
        leaves("BAD of witness ahead of a fault", faulty, Edge.BAD, x -> x.witness(-1));
        finds("NULL of witness ahead of a fault", faulty, 1, x -> x.witness(6));
        finds("PLACE of witness ahead of a fault", faulty, 2, x -> x.witness(4));
        Twin full = new Twin().full().tape("p0,1;g8;");
        finds("PLACE of witness ahead of FULL", full, 2, x -> x.witness(4));
    }

    /** What only looks changes nothing, too. */
    private static void looks() {
        Twin twin = plain();
        becomes("sum", twin, twin, 4, 0, x -> x.sum(0));
        becomes("slack", twin, twin, 3, 0, x -> x.slack(0, 0, 0));
        becomes("forced", twin, twin, 15, 0, x -> x.forced(3, 1, 1) | 15);
        becomes("holds", twin, twin, 192, 0, x -> x.holds(0));
        becomes("follows", twin, twin, 0, 0, x -> x.follows(0));
        becomes("verdict", twin, twin, 0, 0, x -> x.verdict());
        becomes("solutions", twin, twin, 0, 0, x -> Math.min(0, x.solutions(0)));
        becomes("as", twin, twin, 0, 0, x -> x.as(0, 1));
        leaves("degree", twin, 1, x -> x.degree(0));
        leaves("coefficient", twin, -2, x -> x.coefficient(0, 1));
        leaves("price", twin, 3, x -> x.price(0));
        leaves("kind", twin, 2, x -> x.kind(2));
        leaves("count", twin, 3, x -> x.count(7));
        leaves("fault", twin, 0, x -> x.fault());
        leaves("trace", twin, 11, x -> x.trace(0));
        leaves("status", twin, 4, x -> x.status());
    }
}
