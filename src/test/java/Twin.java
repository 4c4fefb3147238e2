import java.util.ArrayList;
import java.util.List;
import java.util.function.Supplier;

/**
 * Two objects that were made alike, one of which had a call more: all that can be seen of them must be
 * the same. What can be seen only by changing it is looked at on objects of their own.
 */
final class Twin {
    boolean isRead = true, isFull, isBeyond;
    String tape = "";
    int fault;

    Twin copy() {
        Twin other = new Twin();
        other.isRead = isRead;
        other.isFull = isFull;
        other.isBeyond = isBeyond;
        other.tape = tape;
        other.fault = fault;
        return other;
    }

    Twin full() {
        isFull = true;
        return this;
    }

    Twin beyond() {
        isBeyond = true;
        return this;
    }

    Twin unread() {
        isRead = false;
        return this;
    }

    Twin tape(String text) {
        tape = text;
        return this;
    }

    Twin fault(int number) {
        fault = number;
        return this;
    }

    /** Something of all that there is; the status is SIZE. */
    SlackProofs make() {
        SlackProofs x = new SlackProofs();
        makeRows(x);
        if (fault > 0) {
            Due.feed(x, fault == 1 ? "g" : fault == 2 ? "p8" : Edge.times("g0;", 9));
            x.formula();
        }
        if (isRead) {
            makeClauses(x);
        }
        Due.feed(x, tape);
        x.row(5, 0, -1);
        return x;
    }

    /** Rows 0 to 4: puts nothing, all 0, forty ints, seven bytes, one that is no witness; 5 to 7 are missing. */
    private static void makeRows(SlackProofs x) {
        x.row(0, 0, 8);
        Edge.items(x, 0, 2, 3, 4, 5, 6, 7, 8, 9);
        x.row(1, 1, 8);
        x.row(2, 2, 40);
        x.set(2, 39, 18);
        x.row(3, 0, 7);
        x.row(4, 2, 8);
        x.set(4, 3, 18);
    }

    private void makeClauses(SlackProofs x) {
        Due.feed(x, "p0,2;n1,2;g1;p2,1;p3,1;g1;m0,3;m2,1;");
        x.formula();
        x.axiom(5, 0);
        x.image(0);
        x.solution(5);
        x.plus(0, 1);
        Due.claim(x, "p2,1;p3,1;p4,7;g1;");
        x.remove(5);
        if (isBeyond) {
            x.times(x.times(0, Edge.MAX), Edge.MAX);
        }
        if (isFull) {
            Edge.fill(x);
        }
        x.ask(0, 0);
    }

    /** All that can be seen, but the status. */
    static List<Long> seen(Supplier<SlackProofs> maker) {
        List<Long> seen = new ArrayList<>();
        seeAll(maker.get(), seen);
        seeClauses(maker.get(), seen);
        SlackProofs x = maker.get();
        for (int i = 0; i < 13; i++) {
            seen.add((long) x.undo());
            seeCounts(x, seen);
            seen.add(x.degree(x.count(2) - 1));
        }
        for (int k = 0; k < 2; k++) {
            SlackProofs y = maker.get();
            seen.add((long) y.restore(k));
            seeCounts(y, seen);
            seeClauses(y, seen);
        }
        seeRows(maker, seen);
        SlackProofs z = maker.get();
        seen.add((long) z.formula());
        seen.add((long) z.fault());
        seeCounts(z, seen);
        seen.add(z.degree(0));
        return seen;
    }

    private static void seeAll(SlackProofs x, List<Long> seen) {
        seeCounts(x, seen);
        seen.add((long) x.fault());
        for (int v = 0; v < 8; v++) {
            seen.add((long) x.price(v));
        }
        for (int i = 0; i < 16; i++) {
            seen.add((long) x.trace(i));
        }
    }

    private static void seeCounts(SlackProofs x, List<Long> seen) {
        for (int what = 0; what < 8; what++) {
            seen.add((long) x.count(what));
        }
    }

    private static void seeClauses(SlackProofs x, List<Long> seen) {
        for (int a = 0; a <= x.count(2); a++) {
            seen.add((long) x.kind(a));
            seen.add(x.degree(a));
            for (int v = 0; v < 8; v++) {
                seen.add(x.coefficient(a, v));
            }
        }
    }

    /** Lanes by what a set keeps, sizes by drop, items by what a witness proves of nothing. */
    private static void seeRows(Supplier<SlackProofs> maker, List<Long> seen) {
        SlackProofs x = maker.get();
        for (int row = 0; row < 8; row++) {
            SlackProofs y = maker.get();
            y.formula();
            Due.feed(y, "g0;");
            y.formula();
            for (int v = 0; v < 8; v++) {
                Due.feed(y, "p" + v + ",1;g1;");
                seen.add((long) y.witness(row));
                Due.feed(y, "g");
                y.formula();
            }
            seen.add((long) x.set(row, 0, 0x12345678));
            seen.add((long) x.drop(row));
        }
    }
}
