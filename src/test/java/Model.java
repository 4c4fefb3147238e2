import java.math.BigInteger;
import java.util.ArrayDeque;
import java.util.ArrayList;
import java.util.Arrays;
import java.util.Deque;
import java.util.List;

/**
 * The document told a second time, in great numbers and with whole copies of the state, so that
 * OracleTest can hold the class against it. Nothing here is fast or shared with the class.
 */
final class Model {
    static final int NONE = -1000000, BAD = -1000001, STATE = -1000002, FULL = -1000003;
    static final BigInteger MAX = BigInteger.valueOf(Long.MAX_VALUE);

    /** A clause by two rows of weights; one of the two is 0 for each variable. */
    static final class Cl {
        BigInteger[] pos = new BigInteger[8], neg = new BigInteger[8];
        BigInteger degree = BigInteger.ZERO;
        int kind = 1, number;
        boolean live = true;

        Cl() {
            Arrays.fill(pos, BigInteger.ZERO);
            Arrays.fill(neg, BigInteger.ZERO);
        }

        Cl(Cl o) {
            pos = o.pos.clone();
            neg = o.neg.clone();
            degree = o.degree;
            kind = o.kind;
            number = o.number;
            live = o.live;
        }

        BigInteger sum() {
            BigInteger s = BigInteger.ZERO;
            for (int v = 0; v < 8; v++) {
                s = s.add(pos[v]).add(neg[v]);
            }
            return s;
        }

        /** value[v]: 0, 1, or null for what is not known. */
        BigInteger slack(Integer[] value) {
            BigInteger s = degree.negate();
            for (int v = 0; v < 8; v++) {
                if (value[v] == null || value[v] == 1) {
                    s = s.add(pos[v]);
                }
                if (value[v] == null || value[v] == 0) {
                    s = s.add(neg[v]);
                }
            }
            return s;
        }

        Cl normal() {
            for (int v = 0; v < 8; v++) {
                BigInteger lesser = pos[v].min(neg[v]);
                pos[v] = pos[v].subtract(lesser);
                neg[v] = neg[v].subtract(lesser);
                degree = degree.subtract(lesser);
            }
            degree = degree.max(BigInteger.ZERO);
            return this;
        }

        boolean isBeyond() {
            boolean over = degree.compareTo(MAX) > 0;
            for (int v = 0; v < 8; v++) {
                over |= pos[v].compareTo(MAX) > 0 || neg[v].compareTo(MAX) > 0;
            }
            return over;
        }

        Cl contrary() {
            Cl c = new Cl();
            c.pos = neg.clone();
            c.neg = pos.clone();
            c.degree = sum().subtract(degree).add(BigInteger.ONE).max(BigInteger.ZERO);
            return c;
        }

        int size() {
            int n = 0;
            for (int v = 0; v < 8; v++) {
                n += pos[v].signum() + neg[v].signum();
            }
            return n;
        }

        int least() {
            int v = 0;
            while (v < 8 && pos[v].signum() + neg[v].signum() == 0) {
                v++;
            }
            return v;
        }
    }

    static final class World {
        List<Cl> clauses = new ArrayList<>();
        int[] prices = new int[8];
        Integer best = null;

        World copy() {
            World w = new World();
            for (Cl c : clauses) {
                w.clauses.add(new Cl(c));
            }
            w.prices = prices.clone();
            w.best = best;
            return w;
        }
    }

    World world = null;
    final World[] images = new World[2];
    final Deque<World> acts = new ArrayDeque<>();
    final Object[] rows = new Object[8];
    final StringBuilder tape = new StringBuilder();
    int fault = 0, status = 0;
    List<Integer> trace = new ArrayList<>();

    // ---- rows, by real arrays of three types

    int length(int r) {
        return rows[r] == null ? -1 : java.lang.reflect.Array.getLength(rows[r]);
    }

    int row(int r, int lane, int n) {
        if (r < 0 || r > 7 || lane < 0 || lane > 2 || n > 40) return BAD;
        if (n < 0) return find(4);
        rows[r] = lane == 0 ? new byte[n] : lane == 1 ? new short[n] : new int[n];
        return fine(n);
    }

    int set(int r, int i, int v) {
        if (r < 0 || r > 7) return BAD;
        if (rows[r] == null) return find(1);
        if (i < 0 || i >= length(r)) return find(2);
        if (rows[r] instanceof byte[] b) {
            b[i] = (byte) v;
            return fine(b[i]);
        }
        if (rows[r] instanceof short[] s) {
            s[i] = (short) v;
            return fine(s[i]);
        }
        ((int[]) rows[r])[i] = v;
        return fine(v);
    }

    int copy(int a, int i, int b, int j, int n) {
        if (a < 0 || a > 7 || b < 0 || b > 7) return BAD;
        try {
            System.arraycopy(rows[a], i, rows[b], j, n);
            return fine(n);
        } catch (NullPointerException e) {
            return find(1);
        } catch (ArrayStoreException e) {
            return find(5);
        } catch (IndexOutOfBoundsException e) {
            return find(2);
        }
    }

    int drop(int r) {
        if (r < 0 || r > 7) return BAD;
        if (rows[r] == null) return find(1);
        int n = length(r);
        rows[r] = null;
        return fine(n);
    }

    int find(int n) {
        status = n;
        return -1000010 - n;
    }

    int fine(int answer) {
        status = 0;
        return answer;
    }

    // ---- texts, by a table of what may stand next

    int feed(int letter) {
        if (letter < 0 || letter > 255) return BAD;
        if (tape.length() == 200) return FULL;
        tape.append((char) letter);
        return tape.length();
    }

    /** The world that is told, or null with the fault's place in place. */
    World parse(boolean isClaim, int[] place) {
        String text = tape.toString();
        tape.setLength(0);
        World w = new World();
        Cl clause = null;
        boolean[] seenPrices = new boolean[8];
        String state = "clause";
        char letter = 0;
        int variable = 0, at = 0;
        while (true) {
            int end = at;
            while (end < text.length() && Character.isDigit(text.charAt(end)) && text.charAt(end) < 128) end++;
            boolean isEnd = at == text.length();
            boolean isNumber = end > at && end - at <= 2;
            char sign = isEnd || end > at ? 0 : text.charAt(at);
            int number = isNumber ? Integer.parseInt(text.substring(at, end)) : -1;
            int found = 0;
            String next = state;
            switch (state) {
                case "clause", "term", "more", "price?" -> {
                    boolean begins = sign == 'p' || sign == 'n' || sign == 'g';
                    if (isEnd && (state.equals("more") || state.equals("price?"))) {
                        return w;
                    } else if (begins && state.equals("more") && isClaim) {
                        found = 1;
                    } else if (begins && !state.equals("price?")) {
                        if (!state.equals("term")) {
                            if (w.clauses.size() == 8) {
                                found = 3;
                            }
                            clause = new Cl();
                            clause.number = w.clauses.size();
                            w.clauses.add(clause);
                        }
                        letter = sign;
                        next = sign == 'g' ? "degree" : "variable";
                    } else if (sign == 'm' && !isClaim && (state.equals("more") || state.equals("price?"))) {
                        letter = sign;
                        next = "variable";
                    } else {
                        found = 1;
                    }
                }
                case "degree" -> {
                    found = isNumber ? 0 : 1;
                    clause.degree = BigInteger.valueOf(number);
                    next = "end of degree";
                }
                case "variable" -> {
                    if (!isNumber) {
                        found = 1;
                    } else if (number > 7) {
                        found = 2;
                    } else if (letter == 'm' ? seenPrices[number]
                            : clause.pos[number].signum() + clause.neg[number].signum() > 0) {
                        found = 2;
                    }
                    variable = number;
                    next = "comma";
                }
                case "comma" -> {
                    found = sign == ',' ? 0 : 1;
                    next = "weight";
                }
                case "weight" -> {
                    if (!isNumber) {
                        found = 1;
                    } else if (number < 1 || letter == 'm' && number > 9) {
                        found = 2;
                    } else if (letter == 'm') {
                        w.prices[variable] = number;
                        seenPrices[variable] = true;
                    } else if (letter == 'p') {
                        clause.pos[variable] = BigInteger.valueOf(number);
                    } else {
                        clause.neg[variable] = BigInteger.valueOf(number);
                    }
                    next = "end of weight";
                }
                default -> {
                    found = sign == ';' ? 0 : 1;
                    next = state.equals("end of degree") ? "more" : letter == 'm' ? "price?" : "term";
                }
            }
            if (found != 0) {
                fault = found;
                place[0] = at;
                return null;
            }
            state = next;
            at = end > at ? end : at + 1;
        }
    }

    int formula() {
        int[] place = new int[1];
        World w = parse(false, place);
        if (w == null) return -1000100 - place[0];
        world = w;
        acts.clear();
        return w.clauses.size();
    }

    // ---- steps

    boolean has(int a) {
        return world != null && a >= 0 && a < world.clauses.size() && world.clauses.get(a).live;
    }

    Cl at(int a) {
        return world.clauses.get(a);
    }

    boolean full() {
        return world.clauses.size() == 30;
    }

    void act() {
        acts.addLast(world.copy());
        if (acts.size() > 12) acts.removeFirst();
    }

    int come(Cl c, int kind) {
        act();
        c.kind = kind;
        c.live = true;
        c.number = world.clauses.size();
        world.clauses.add(c);
        return c.number;
    }

    Integer refused(boolean good) {
        if (world == null) return STATE;
        if (!good) return BAD;
        return full() ? FULL : null;
    }

    int plus(int a, int b) {
        Integer r = refused(has(a) && has(b));
        if (r != null) return r;
        Cl c = new Cl(at(a)), d = at(b);
        c.degree = c.degree.add(d.degree);
        // the degrees together are a number of the step, too
        boolean over = c.degree.compareTo(MAX) > 0;
        for (int v = 0; v < 8; v++) {
            c.pos[v] = c.pos[v].add(d.pos[v]);
            c.neg[v] = c.neg[v].add(d.neg[v]);
        }
        if (over || c.normal().isBeyond()) return find(6);
        return fine(come(c, 4));
    }

    int times(int a, int k) {
        Integer r = refused(has(a) && k >= 1);
        if (r != null) return r;
        Cl c = new Cl(at(a));
        BigInteger f = BigInteger.valueOf(k);
        c.degree = c.degree.multiply(f);
        for (int v = 0; v < 8; v++) {
            c.pos[v] = c.pos[v].multiply(f);
            c.neg[v] = c.neg[v].multiply(f);
        }
        return c.isBeyond() ? find(6) : fine(come(c, 4));
    }

    static BigInteger up(BigInteger n, int k) {
        return n.add(BigInteger.valueOf(k - 1L)).divide(BigInteger.valueOf(k));
    }

    int split(int a, int k) {
        Integer r = refused(has(a) && k >= 1);
        if (r != null) return r;
        Cl c = new Cl(at(a));
        c.degree = up(c.degree, k);
        for (int v = 0; v < 8; v++) {
            c.pos[v] = up(c.pos[v], k);
            c.neg[v] = up(c.neg[v], k);
        }
        return come(c, 4);
    }

    int saturate(int a) {
        Integer r = refused(has(a));
        if (r != null) return r;
        Cl c = new Cl(at(a));
        for (int v = 0; v < 8; v++) {
            c.pos[v] = c.pos[v].min(c.degree);
            c.neg[v] = c.neg[v].min(c.degree);
        }
        return come(c, 4);
    }

    int weaken(int a, int v) {
        Integer r = refused(has(a) && v >= 0 && v < 8
                && at(a).pos[v].signum() + at(a).neg[v].signum() > 0);
        if (r != null) return r;
        Cl c = new Cl(at(a));
        c.degree = c.degree.subtract(c.pos[v]).subtract(c.neg[v]).max(BigInteger.ZERO);
        c.pos[v] = BigInteger.ZERO;
        c.neg[v] = BigInteger.ZERO;
        return come(c, 4);
    }

    int axiom(int v, int which) {
        Integer r = refused(v >= 0 && v < 8 && (which == 0 || which == 1));
        if (r != null) return r;
        Cl c = new Cl();
        (which == 1 ? c.pos : c.neg)[v] = BigInteger.ONE;
        return come(c, 2);
    }

    List<Cl> live() {
        List<Cl> l = new ArrayList<>();
        for (Cl c : world.clauses) {
            if (c.live) l.add(c);
        }
        return l;
    }

    boolean over() {
        for (Cl c : live()) {
            if (c.sum().compareTo(MAX) > 0) return true;
        }
        return false;
    }

    /** Drives value on; whether there is a conflict. One literal at a time, then all anew. */
    static boolean force(List<Cl> clauses, Integer[] value) {
        boolean goesOn = true;
        while (goesOn) {
            goesOn = false;
            for (Cl c : clauses) {
                if (c.slack(value).signum() < 0) return true;
            }
            search:
            for (Cl c : clauses) {
                for (int v = 7; v >= 0; v--) {
                    BigInteger s = c.slack(value);
                    if (value[v] == null && c.pos[v].add(c.neg[v]).compareTo(s) > 0) {
                        value[v] = c.pos[v].signum();
                        goesOn = true;
                        break search;
                    }
                }
            }
        }
        return false;
    }

    static boolean follow(Cl c, List<Cl> from) {
        if (c.degree.signum() == 0) return true;
        List<Cl> all = new ArrayList<>(from);
        all.add(c.contrary());
        return force(all, new Integer[8]);
    }

    int claim() {
        if (world == null) return STATE;
        int[] place = new int[1];
        World w = parse(true, place);
        if (w == null) return -1000100 - place[0];
        if (full()) return FULL;
        if (over()) return find(6);
        Cl c = w.clauses.get(0);
        return fine(follow(c, live()) ? come(c, 5) : NONE);
    }

    static Cl put(Cl c, int[] w) {
        Cl p = new Cl();
        p.degree = c.degree;
        for (int v = 0; v < 8; v++) {
            for (int side = 0; side < 2; side++) {
                BigInteger weight = side == 0 ? c.pos[v] : c.neg[v];
                if (w[v] < 2) {
                    if (w[v] != side) p.degree = p.degree.subtract(weight);
                } else {
                    boolean isPos = (w[v] < 10) == (side == 0);
                    BigInteger[] into = isPos ? p.pos : p.neg;
                    int u = (w[v] - 2) % 8;
                    into[u] = into[u].add(weight);
                }
            }
        }
        return p.normal();
    }

    /** Sum of c[u] x_u >= k, by signed numbers first. */
    Cl priceKept(int[] w) {
        int[] c = new int[8];
        int k = 0;
        for (int v = 0; v < 8; v++) {
            int p = world.prices[v];
            c[v] += p;
            if (w[v] == 1) {
                k += p;
            } else if (w[v] >= 10) {
                c[w[v] - 10] += p;
                k += p;
            } else if (w[v] >= 2) {
                c[w[v] - 2] -= p;
            }
        }
        Cl r = new Cl();
        for (int v = 0; v < 8; v++) {
            r.pos[v] = BigInteger.valueOf(Math.max(0, c[v]));
            r.neg[v] = BigInteger.valueOf(Math.max(0, -c[v]));
            k += Math.max(0, -c[v]);
        }
        r.degree = BigInteger.valueOf(Math.max(0, k));
        return r;
    }

    int witness(int row) {
        if (world == null) return STATE;
        if (row < 0 || row > 7) return BAD;
        if (rows[row] == null) return find(1);
        if (length(row) < 8) return find(2);
        int[] w = new int[8];
        for (int v = 0; v < 8; v++) {
            w[v] = java.lang.reflect.Array.getInt(rows[row], v);
            if (w[v] < 0 || w[v] > 17) return find(2);
        }
        int[] place = new int[1];
        World told = parse(true, place);
        if (told == null) return -1000100 - place[0];
        if (full()) return FULL;
        if (over()) return find(6);
        Cl c = told.clauses.get(0);
        List<Cl> from = live();
        List<Cl> due = new ArrayList<>();
        for (Cl l : from) {
            due.add(put(l, w));
        }
        due.add(put(c, w));
        due.add(priceKept(w));
        from.add(c.contrary());
        for (Cl d : due) {
            if (!follow(d, from)) return fine(NONE);
        }
        return fine(come(c, 5));
    }

    static Integer[] values(int known, int bits) {
        Integer[] value = new Integer[8];
        for (int v = 0; v < 8; v++) {
            value[v] = (known >> v & 1) == 0 ? null : Integer.valueOf(bits >> v & 1);
        }
        return value;
    }

    static boolean holdsBy(Cl c, int bits) {
        return c.slack(values(255, bits)).signum() >= 0;
    }

    boolean solves(int bits) {
        for (Cl c : live()) {
            if (!holdsBy(c, bits)) return false;
        }
        return true;
    }

    int cost(int bits) {
        int p = 0;
        for (int v = 0; v < 8; v++) {
            p += world.prices[v] * (bits >> v & 1);
        }
        return p;
    }

    int solution(int bits) {
        if (world == null) return STATE;
        if (bits < 0 || bits > 255) return BAD;
        int all = cost(255);
        if (all > 0 && full()) return FULL;
        if (over()) return find(6);
        if (!solves(bits)) return fine(NONE);
        int p = cost(bits);
        if (all > 0) {
            Cl c = new Cl();
            for (int v = 0; v < 8; v++) {
                c.neg[v] = BigInteger.valueOf(world.prices[v]);
            }
            c.degree = BigInteger.valueOf(all - p + 1);
            come(c, 3);
        } else {
            act();
        }
        world.best = p;
        return fine(p);
    }

    int remove(int a) {
        if (world == null) return STATE;
        if (!has(a)) return BAD;
        if (at(a).kind < 4) {
            if (over()) return find(6);
            if (!followsOthers(a)) return fine(NONE);
        }
        act();
        at(a).live = false;
        return fine(live().size());
    }

    boolean followsOthers(int a) {
        List<Cl> others = live();
        others.remove(at(a));
        return follow(at(a), others);
    }

    int undo() {
        if (acts.isEmpty()) return STATE;
        world = acts.removeLast();
        return acts.size();
    }

    // ---- what there is

    long degree(int a) {
        return has(a) ? at(a).degree.longValueExact() : BAD;
    }

    long coefficient(int a, int v) {
        return has(a) && v >= 0 && v < 8 ? at(a).pos[v].subtract(at(a).neg[v]).longValueExact() : BAD;
    }

    long sum(int a) {
        if (!has(a)) return BAD;
        if (at(a).sum().compareTo(MAX) > 0) return find(6);
        fine(0);
        return at(a).sum().longValueExact();
    }

    long slack(int a, int known, int bits) {
        if (!has(a) || known < 0 || known > 255 || bits < 0 || bits > 255) return BAD;
        if (at(a).sum().compareTo(MAX) > 0) return find(6);
        fine(0);
        return at(a).slack(values(known, bits)).longValueExact();
    }

    int forced(int known, int bits, int what) {
        if (world == null) return STATE;
        if (known < 0 || known > 255 || bits < 0 || bits > 255 || what < 0 || what > 2) return BAD;
        if (over()) return find(6);
        Integer[] value = values(known, bits);
        boolean conflict = force(live(), value);
        if (what == 0) return fine(conflict ? 1 : 0);
        if (conflict) return fine(NONE);
        int r = 0;
        for (int v = 0; v < 8; v++) {
            if (value[v] != null && (what == 1 || value[v] == 1)) r |= 1 << v;
        }
        return fine(r);
    }

    int solutions(int what) {
        if (world == null) return STATE;
        if (what < 0 || what > 2) return BAD;
        if (over()) return find(6);
        int n = 0, least = NONE, first = NONE;
        for (int bits = 255; bits >= 0; bits--) {
            if (solves(bits)) {
                n++;
                if (least == NONE || cost(bits) <= least) {
                    least = cost(bits);
                    first = bits;
                }
            }
        }
        return fine(what == 0 ? n : what == 1 ? least : first);
    }

    int holds(int a) {
        if (!has(a)) return BAD;
        if (at(a).sum().compareTo(MAX) > 0) return find(6);
        int n = 0;
        for (int bits = 0; bits < 256; bits++) {
            if (holdsBy(at(a), bits)) n++;
        }
        return fine(n);
    }

    int follows(int a) {
        if (!has(a)) return BAD;
        if (over()) return find(6);
        return fine(followsOthers(a) ? 1 : 0);
    }

    int verdict() {
        if (world == null) return STATE;
        if (over()) return find(6);
        for (Cl c : live()) {
            if (c.degree.compareTo(c.sum()) > 0) return fine(world.best == null ? 1 : 2);
        }
        return fine(0);
    }

    int price(int v) {
        return v < 0 || v > 7 ? BAD : world == null ? 0 : world.prices[v];
    }

    int image(int k) {
        if (k < 0 || k > 1) return BAD;
        if (world == null) return STATE;
        images[k] = world.copy();
        return live().size();
    }

    int restore(int k) {
        if (k < 0 || k > 1) return BAD;
        if (images[k] == null) return STATE;
        world = images[k].copy();
        acts.clear();
        return live().size();
    }

    // ---- asked

    int kind(int a) {
        return has(a) ? at(a).kind : BAD;
    }

    static final int[] PARENT = {-1, 0, 1, 1, 0, 4};

    int as(int a, int kind) {
        if (!has(a) || kind < 0 || kind > 5) return BAD;
        for (int k = at(a).kind; k >= 0; k = PARENT[k]) {
            if (k == kind) return fine(a);
        }
        return find(3);
    }

    int ask(int a, int what) {
        if (!has(a) || what < 0 || what > 1) return BAD;
        trace = new ArrayList<>();
        return asked(at(a), what);
    }

    static final int[][] BODIES = {{10, 11, 12, 0, 13, 14}, {20, 21, 24, 22, 23, 0}};

    int asked(Cl c, int what) {
        int k = c.kind;
        while (BODIES[what][k] == 0) k = PARENT[k];
        return body(c, BODIES[what][k]);
    }

    int body(Cl c, int b) {
        trace.add(b);
        int inner;
        switch (b) {
            case 10: return c.size();
            case 11: inner = body(c, 10); return inner + asked(c, 1);
            case 12: return -body(c, 11);
            case 13: return body(c, 10) - 100;
            case 14: return body(c, 13) * 2;
            case 20: return c.number;
            case 21: return body(c, 20) + c.least();
            case 22: return body(c, 21) - 1000;
            case 23: inner = body(c, 20); return inner - asked(c, 0);
            default: return body(c, 21) * 2;
        }
    }

    int trace(int i) {
        return i < 0 || i >= trace.size() || i >= 16 ? NONE : trace.get(i);
    }

    int count(int what) {
        int n = 0;
        switch (what) {
            case 0:
                for (Object r : rows) {
                    n += r == null ? 0 : 1;
                }
                return n;
            case 1: return world == null ? 0 : live().size();
            case 2: return world == null ? 0 : world.clauses.size();
            case 3:
                for (int a = 0; a < 30; a++) {
                    n |= has(a) ? 1 << a : 0;
                }
                return n;
            case 4: return world == null || world.best == null ? NONE : world.best;
            case 5: return world == null ? 0 : cost(255);
            case 6: return acts.size();
            case 7: return tape.length();
            default: return BAD;
        }
    }
}
