import java.util.List;

/**
 * Every call with every choice of numbers at and beside its limits, and at the ends of an int, in
 * several states; each held against Model. An object is left ahead of its 512th call.
 */
public final class EndsTest {
    private static final int MIN = Integer.MIN_VALUE, MAX = Integer.MAX_VALUE;
    private static final int[] ROWS = {MIN, -1, 0, 1, 2, 7, 8, MAX};
    private static final int[] PLACES = {MIN, -1, 0, 1, 4, 5, MAX};
    private static final int[] LANES = {MIN, -1, 0, 1, 2, 3, MAX};
    private static final int[] SIZES = {MIN, -1, 0, 1, 39, 40, 41, MAX};
    private static final int[] ITEMS = {MIN, -32769, -32768, -129, -128, -1, 0, 17, 18, 127, 128, 32767, 32768, MAX};
    private static final int[] CLAUSES = {MIN, -1, 0, 1, 2, 3, 4, 5, 29, 30, 31, 32, 33, MAX};
    private static final int[] VARIABLES = {MIN, -1, 0, 1, 2, 7, 8, 32, MAX};
    private static final int[] FACTORS = {MIN, -1, 0, 1, 2, 3, 1 << 30, MAX - 1, MAX};
    private static final int[] SETS = {MIN, -1, 0, 1, 2, 3, 128, 254, 255, 256, 511, MAX};
    private static final int[] FEW = {MIN, -1, 0, 1, 2, 3, 4, 5, 6, 7, 8, 16, MAX};
    private static final int[] BYTES = {MIN, -1, 0, 'g', ';', '0', 255, 256, MAX};

    private static final List<String> FORMULAS = List.of("", "g0;", "p0,2;n1,2;g1;m0,1;", "p0,9;n1,4;g13;p7,1;n0,3;g2;",
            "p0,1;n1,1;p2,1;n3,1;p4,1;n5,1;p6,1;n7,1;g4;m0,1;m7,9;", "g1;p0,1;g1;", "p0,49;n7,49;g49;p1,49;g48;");

    private SlackProofs x;
    private Model m;
    private int calls, state;

    public static void main(String[] args) {
        EndsTest test = new EndsTest();
        for (test.state = 0; test.state < 4 * FORMULAS.size(); test.state++) {
            test.anew();
            test.rows();
            test.copies();
            test.steps();
            test.looks();
        }
        Due.end("EndsTest");
    }

    /** States: a formula with nothing more; with steps; with great numbers; with 30 numbers. */
    private void anew() {
        x = new SlackProofs();
        m = new Model();
        calls = 0;
        row(0, 0, 5);
        row(1, 1, 5);
        row(2, 0, 40);
        String text = FORMULAS.get(state % FORMULAS.size());
        for (int i = 0; i < text.length(); i++) {
            same("feed", x.feed(text.charAt(i)), m.feed(text.charAt(i)));
        }
        same("formula", x.formula(), m.formula());
        int more = state / FORMULAS.size();
        if (more == 1) {
            same("plus", x.plus(0, 0), m.plus(0, 0));
            same("remove", x.remove(1), m.remove(1));
            same("axiom", x.axiom(3, 0), m.axiom(3, 0));
            same("image", x.image(1), m.image(1));
        } else if (more == 2) {
            same("times", x.times(0, MAX), m.times(0, MAX));
            same("times", x.times(m.count(2) - 1, MAX), m.times(m.count(2) - 1, MAX));
        } else if (more == 3) {
            for (int i = 0; i < 30; i++) {
                same("axiom", x.axiom(0, 1), m.axiom(0, 1));
            }
        }
    }

    private void row(int row, int lane, int n) {
        same("row " + row + " " + lane + " " + n, x.row(row, lane, n), m.row(row, lane, n));
    }

    private void same(String call, long got, long want) {
        calls += 2;
        Due.due("state " + state + ", " + call, got, want);
        Due.due("state " + state + ", status of " + call, x.status(), m.status);
        if (calls > 480) {
            anew();
        }
    }

    private void rows() {
        for (int row : ROWS) {
            same("drop " + row, x.drop(row), m.drop(row));
            for (int lane : LANES) {
                for (int n : SIZES) {
                    row(row, lane, n);
                    for (int v : ITEMS) {
                        same("set " + row + " 0 " + v, x.set(row, 0, v), m.set(row, 0, v));
                    }
                }
            }
            for (int i : SIZES) {
                same("set " + row + " " + i, x.set(row, i, 9), m.set(row, i, 9));
            }
            same("witness " + row, x.witness(row), m.witness(row));
        }
    }

    private void copies() {
        if (state > 3) {
            return;
        }
        for (int a : new int[] {-1, 0, 1, 2, 3, 8}) {
            for (int b : new int[] {MIN, 0, 1, 2, 7, MAX}) {
                for (int i : PLACES) {
                    for (int j : PLACES) {
                        for (int n : PLACES) {
                            String call = "copy " + a + " " + i + " " + b + " " + j + " " + n;
                            same(call, x.copy(a, i, b, j, n), m.copy(a, i, b, j, n));
                        }
                    }
                }
            }
        }
    }

    private void steps() {
        for (int letter : BYTES) {
            same("feed " + letter, x.feed(letter), m.feed(letter));
        }
        for (int a : CLAUSES) {
            for (int b : CLAUSES) {
                same("plus " + a + " " + b, x.plus(a, b), m.plus(a, b));
            }
            for (int k : FACTORS) {
                same("times " + a + " " + k, x.times(a, k), m.times(a, k));
                same("split " + a + " " + k, x.split(a, k), m.split(a, k));
            }
            for (int v : VARIABLES) {
                same("weaken " + a + " " + v, x.weaken(a, v), m.weaken(a, v));
                same("coefficient " + a + " " + v, x.coefficient(a, v), m.coefficient(a, v));
            }
            same("saturate " + a, x.saturate(a), m.saturate(a));
            same("remove " + a, x.remove(a), m.remove(a));
            same("undo", x.undo(), m.undo());
        }
        for (int v : VARIABLES) {
            for (int which : FEW) {
                same("axiom " + v + " " + which, x.axiom(v, which), m.axiom(v, which));
            }
        }
        for (int values : SETS) {
            same("solution " + values, x.solution(values), m.solution(values));
        }
    }

    private void looks() {
        anew();
        for (int a : CLAUSES) {
            same("degree " + a, x.degree(a), m.degree(a));
            same("sum " + a, x.sum(a), m.sum(a));
            same("holds " + a, x.holds(a), m.holds(a));
            same("follows " + a, x.follows(a), m.follows(a));
            same("kind " + a, x.kind(a), m.kind(a));
            for (int few : FEW) {
                same("as " + a + " " + few, x.as(a, few), m.as(a, few));
                same("ask " + a + " " + few, x.ask(a, few), m.ask(a, few));
                same("trace " + few, x.trace(few), m.trace(few));
            }
            for (int known : SETS) {
                for (int values : SETS) {
                    String call = "slack " + a + " " + known + " " + values;
                    same(call, x.slack(a, known, values), m.slack(a, known, values));
                }
            }
        }
        for (int few : FEW) {
            for (int known : SETS) {
                for (int values : SETS) {
                    String call = "forced " + known + " " + values + " " + few;
                    same(call, x.forced(known, values, few), m.forced(known, values, few));
                }
            }
            same("solutions " + few, x.solutions(few), m.solutions(few));
            same("price " + few, x.price(few), m.price(few));
            same("count " + few, x.count(few), m.count(few));
            same("image " + few, x.image(few), m.image(few));
            same("restore " + few, x.restore(few), m.restore(few));
        }
        same("verdict", x.verdict(), m.verdict());
        same("fault", x.fault(), m.fault);
    }
}
