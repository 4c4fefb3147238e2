import java.util.Random;

/** Many runs of calls, each held against Model; the seeds are fixed, so each time they are the same. */
public final class OracleTest {
    private static final int RUNS = 3000, CALLS = 512;

    private static final int[] FAR = {Integer.MIN_VALUE, Integer.MIN_VALUE + 1, Integer.MAX_VALUE,
        -1, 30, 31, 32, 33, 63, 64, 255, 256, 65536};

    private SlackProofs x;
    private Model m;
    private Random random;
    private int run, calls;

    public static void main(String[] args) {
        new OracleTest().runAll(args.length > 0 ? Integer.parseInt(args[0]) : RUNS);
        Due.end("OracleTest");
    }

    private void runAll(int runs) {
        for (run = 0; run < runs; run++) {
            random = new Random(run * 7919L + 17);
            x = new SlackProofs();
            m = new Model();
            calls = 0;
            while (calls < CALLS) {
                call();
            }
        }
    }

    private void same(String call, long got, long want) {
        calls++;
        Due.due("run " + run + ", call " + calls + ": " + call, got, want);
    }

    private int any(int n) {
        return random.nextInt(n);
    }

    /** Mostly a number in 0 .. n - 1, now and then one beside. */
    private int near(int n) {
        if (any(80) == 0) {
            return FAR[any(FAR.length)];
        }
        return any(12) == 0 ? any(n + 4) - 2 : any(n);
    }

    /** Every third run drives numbers to where they are refused. */
    private boolean isOfGreatNumbers() {
        return run % 3 == 0;
    }

    private int clause() {
        int used = Math.max(1, m.count(2));
        boolean isLate = any(3) == 0 || isOfGreatNumbers() && any(4) != 0;
        return isLate ? Math.max(0, used - 1 - any(4)) : near(used);
    }

    private int factor() {
        int[] some = {1, 2, 3, 5, 0, -1, 1 << 30, Integer.MAX_VALUE, Integer.MAX_VALUE, 99, 1 << 15};
        if (isOfGreatNumbers() && any(4) != 0) {
            return any(3) == 0 ? 1 << 30 : Integer.MAX_VALUE - any(2);
        }
        return any(3) == 0 ? some[any(some.length)] : 1 + any(6);
    }

    private void feed(String text) {
        for (int i = 0; i < text.length(); i++) {
            same("feed", x.feed(text.charAt(i)), m.feed(text.charAt(i)));
        }
    }

    private String clauseText(int variables, int weights, int terms) {
        StringBuilder text = new StringBuilder();
        int seen = 0, sum = 0;
        for (int i = 0; i < terms; i++) {
            int v = any(variables);
            if ((seen >> v & 1) == 0) {
                seen |= 1 << v;
                int w = 1 + any(weights);
                sum += w;
                text.append(any(2) == 0 ? 'p' : 'n').append(v).append(',').append(w).append(';');
            }
        }
        int degree = any(5) == 0 ? any(sum + 3) : any(sum / 2 + 2);
        return text.append('g').append(Math.min(99, degree)).append(';').toString();
    }

    private String spoilt(String text) {
        if (any(8) != 0 || text.isEmpty()) {
            return text;
        }
        String signs = "pngm,;0123456789xz \u00e9";
        int at = any(text.length());
        String sign = any(3) == 0 ? "" : String.valueOf(signs.charAt(any(signs.length())));
        return text.substring(0, at) + sign + text.substring(at + any(2));
    }

    private void formula() {
        StringBuilder text = new StringBuilder();
        int variables = 2 + any(7), n = 1 + any(4);
        int weights = any(3) == 0 && !isOfGreatNumbers() ? 9 : any(2) + 1;
        if (any(15) == 0) {
            n = 7 + any(3);
        }
        for (int i = 0; i < n; i++) {
            text.append(clauseText(variables, weights, n > 5 ? 1 + any(2) : 1 + any(4)));
        }
        if (any(2) == 0) {
            for (int v = any(3); v < 8; v += 1 + any(4)) {
                text.append('m').append(v).append(',').append(1 + any(9)).append(';');
            }
        }
        feed(spoilt(text.toString()));
        same("formula", x.formula(), m.formula());
    }

    private void witnessRow() {
        int n = any(15) == 0 ? any(10) : 8;
        int lane = any(3);
        same("row", x.row(0, lane, n), m.row(0, lane, n));
        for (int v = 0; v < 8; v++) {
            int item = any(4) == 0 ? any(18) : any(6) == 0 ? any(2) : 2 + v;
            if (any(60) == 0) {
                item = any(100) - 50;
            }
            same("set", x.set(0, v, item), m.set(0, v, item));
        }
    }

    private void claims() {
        if (any(3) == 0) {
            witnessRow();
        }
        feed(spoilt(clauseText(1 + any(8), 1 + any(3), 1 + any(4))));
        if (any(2) == 0) {
            same("claim", x.claim(), m.claim());
        } else {
            int row = any(10) == 0 ? near(8) : 0;
            same("witness " + row, x.witness(row), m.witness(row));
        }
    }

    private void call() {
        int kind = any(100);
        if (calls == 0 && run % 9 != 0 || kind < 1) {
            formula();
        } else if (kind < 10) {
            claims();
        } else if (kind < 15) {
            rowCall();
        } else if (kind < 50) {
            step();
        } else if (kind < 85) {
            look();
        } else {
            asked();
        }
        same("status", x.status(), m.status);
    }

    private void rowCall() {
        int a = near(4), b = near(4), i = near(5), j = near(5), n = near(41);
        switch (any(6)) {
            case 0, 4, 5 -> same("row", x.row(a, i, n), m.row(a, i, n));
            case 1 -> same("set", x.set(a, i, j * 40000), m.set(a, i, j * 40000));
            case 2 -> same("copy", x.copy(a, i, b, j, i + j), m.copy(a, i, b, j, i + j));
            default -> same("drop", x.drop(a), m.drop(a));
        }
    }

    private void step() {
        int a = clause(), b = clause(), v = near(8), k = factor(), bits = near(256);
        switch (any(12)) {
            case 0, 1, 2 -> same("plus " + a + " " + b, x.plus(a, b), m.plus(a, b));
            case 3, 4 -> same("times " + a + " " + k, x.times(a, k), m.times(a, k));
            case 5 -> same("split", x.split(a, k), m.split(a, k));
            case 6 -> same("saturate", x.saturate(a), m.saturate(a));
            case 7 -> same("weaken", x.weaken(a, v), m.weaken(a, v));
            case 8 -> same("axiom", x.axiom(v, k & 1), m.axiom(v, k & 1));
            case 9 -> same("solution", x.solution(bits), m.solution(bits));
            case 10 -> same("remove", x.remove(a), m.remove(a));
            default -> {
                for (int i = any(4); i >= 0; i--) {
                    same("undo", x.undo(), m.undo());
                }
            }
        }
    }

    private void look() {
        int a = clause(), v = near(8), bits = near(256), known = any(2) == 0 ? 1 << any(8) : near(256);
        int what = near(3), k = near(2);
        switch (any(12)) {
            case 0 -> same("degree", x.degree(a), m.degree(a));
            case 1 -> same("coefficient", x.coefficient(a, v), m.coefficient(a, v));
            case 2 -> same("sum", x.sum(a), m.sum(a));
            case 3 -> same("slack", x.slack(a, known, bits), m.slack(a, known, bits));
            case 4, 5 -> same("forced", x.forced(known, bits, what), m.forced(known, bits, what));
            case 6 -> same("solutions", x.solutions(what), m.solutions(what));
            case 7 -> same("holds", x.holds(a), m.holds(a));
            case 8 -> same("follows", x.follows(a), m.follows(a));
            case 9 -> same("verdict", x.verdict(), m.verdict());
            case 10 -> same("price", x.price(v), m.price(v));
            default -> images(k);
        }
    }

    private void images(int k) {
        if (any(2) == 0) {
            same("image", x.image(k), m.image(k));
        } else if (any(4) == 0) {
            same("restore", x.restore(k), m.restore(k));
        }
    }

    private void asked() {
        int a = clause();
        switch (any(5)) {
            case 0 -> same("kind", x.kind(a), m.kind(a));
            case 1 -> {
                int kind = near(6);
                same("as", x.as(a, kind), m.as(a, kind));
            }
            case 2 -> {
                int what = near(2);
                same("ask", x.ask(a, what), m.ask(a, what));
                int i = near(6);
                same("trace", x.trace(i), m.trace(i));
            }
            case 3 -> {
                int what = near(8);
                same("count", x.count(what), m.count(what));
            }
            default -> same("fault", x.fault(), m.fault);
        }
    }
}
