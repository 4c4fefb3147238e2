import java.math.BigInteger;
import java.util.ArrayList;
import java.util.Arrays;
import java.util.List;
import java.util.Random;

/**
 * What a checked proof is for, by trying all 256 values beside the class: steps lose no solution,
 * witnesses none of the least price, what is forced is so, and the verdict is true of the formula.
 */
public final class SoundTest {
    private static final int RUNS = 6000, VALUES = 256, NO_PRICE = Integer.MAX_VALUE;

    /** An object is left ahead of its 512th call; the dearest round takes less than 80. */
    private static final int MOST_CALLS = 430;

    private static int settled, infeasible, witnessed, claimed;

    private final Random random;
    private final String run;
    private final SlackProofs x = new SlackProofs();
    private final int[] prices = new int[8];
    private final List<boolean[]> holds = new ArrayList<>();
    private boolean[] solved;
    private int calls;

    private SoundTest(int run) {
        random = new Random(run * 104729L + 5);
        this.run = "run " + run + ": ";
    }

    public static void main(String[] args) {
        for (int run = 0; run < RUNS; run++) {
            new SoundTest(run).proof();
        }
        Due.dueTrue("verdicts 2: " + settled, settled > 50);
        Due.dueTrue("verdicts 1: " + infeasible, infeasible > 50);
        Due.dueTrue("witnesses: " + witnessed, witnessed > 500);
        Due.dueTrue("claims: " + claimed, claimed > 500);
        Due.end("SoundTest");
    }

    private void proof() {
        feed(formulaText());
        Due.dueTrue(run + "formula", x.formula() > 0);
        solved = solutions();
        int least = leastPrice(solved);
        while (calls < MOST_CALLS) {
            step();
            looks();
            int best = x.count(4) == SlackProofs.NONE ? NO_PRICE : x.count(4);
            Due.due(run + "the least price is the best, or left", Math.min(best, leastPrice(solved)), least);
            calls += 2;
        }
        int verdict = x.verdict();
        if (verdict == 2) {
            settled++;
            Due.due(run + "best is the least price", x.count(4), least);
        } else if (verdict == 1) {
            infeasible++;
            Due.due(run + "there is no solution", least, NO_PRICE);
        }
    }

    private int any(int n) {
        return random.nextInt(n);
    }

    private void feed(String text) {
        Due.feed(x, text);
        calls += text.length() + 1;
    }

    private String clauseText(int terms) {
        StringBuilder text = new StringBuilder();
        int seen = 0, sum = 0;
        for (int i = 0; i < terms; i++) {
            int v = any(4), weight = 1 + any(3);
            if ((seen >> v & 1) == 0) {
                seen |= 1 << v;
                sum += weight;
                text.append("pn".charAt(any(2))).append(v).append(',').append(weight).append(';');
            }
        }
        return text.append('g').append(any(sum + 2)).append(';').toString();
    }

    private String formulaText() {
        StringBuilder text = new StringBuilder();
        for (int n = 1 + any(4); n > 0; n--) {
            text.append(clauseText(1 + any(3)));
        }
        for (int v = 0; v < 8 && any(8) != 0; v += 1 + any(2)) {
            prices[v] = 1 + any(9);
            text.append('m').append(v).append(',').append(prices[v]).append(';');
        }
        return text.toString();
    }

    // ---- what the live clauses say, from degrees and coefficients alone

    private boolean[] holdsOf(int a) {
        long degree = x.degree(a);
        long[] weights = new long[8];
        for (int v = 0; v < 8; v++) {
            weights[v] = x.coefficient(a, v);
        }
        calls += 9;
        boolean[] holdsBy = new boolean[VALUES];
        for (int values = 0; values < VALUES; values++) {
            BigInteger sum = BigInteger.ZERO;
            for (int v = 0; v < 8; v++) {
                if (weights[v] > 0 == ((values >> v & 1) == 1)) {
                    sum = sum.add(BigInteger.valueOf(weights[v]).abs());
                }
            }
            holdsBy[values] = sum.compareTo(BigInteger.valueOf(degree)) >= 0;
        }
        return holdsBy;
    }

    /** No run undoes a clause that came, so each is looked at once. */
    private boolean[] solutions() {
        int used = x.count(2), live = x.count(3);
        calls += 2;
        for (int a = holds.size(); a < used; a++) {
            holds.add(holdsOf(a));
        }
        boolean[] all = new boolean[VALUES];
        Arrays.fill(all, true);
        for (int a = 0; a < used; a++) {
            for (int values = 0; values < VALUES && (live >> a & 1) == 1; values++) {
                all[values] &= holds.get(a)[values];
            }
        }
        return all;
    }

    private int priceOf(int values) {
        int price = 0;
        for (int v = 0; v < 8; v++) {
            price += prices[v] * (values >> v & 1);
        }
        return price;
    }

    private int leastPrice(boolean[] of) {
        int least = NO_PRICE;
        for (int values = 0; values < VALUES; values++) {
            least = of[values] ? Math.min(least, priceOf(values)) : least;
        }
        return least;
    }

    // ---- steps

    private void step() {
        int a = any(x.count(2)), b = any(x.count(2));
        calls += 3;
        switch (any(14)) {
            case 0, 1, 2 -> sameAfter("plus", x.plus(a, b));
            case 3 -> sameAfter("times", x.times(a, any(9) == 0 ? Integer.MAX_VALUE : 1 + any(5)));
            case 4, 5 -> sameAfter("split", x.split(a, 1 + any(4)));
            case 6 -> sameAfter("saturate", x.saturate(a));
            case 7 -> sameAfter("weaken", x.weaken(a, any(4)));
            case 8 -> sameAfter("axiom", x.axiom(any(8), any(2)));
            case 9 -> removes(a);
            case 10, 11 -> claims();
            case 12 -> witnesses();
            default -> solves();
        }
    }

    /** A step that may neither lose a solution nor win one. */
    private void sameAfter(String step, int answer) {
        Due.dueTrue(run + step + " " + answer + " keeps all", Arrays.equals(solutions(), solved));
    }

    /** Derived ones go always, needed or not; by undo one stays that was needed. */
    private void removes(int a) {
        boolean isDerived = x.kind(a) >= 4;
        int answer = x.remove(a);
        calls += 2;
        if (isDerived && answer >= 0 && !Arrays.equals(solutions(), solved)) {
            x.undo();
        }
        sameAfter("remove", answer);
    }

    private void claims() {
        feed(any(4) == 0 ? "g1;" : clauseText(1 + any(3)));
        int answer = x.claim();
        claimed += answer >= 0 ? 1 : 0;
        sameAfter("claim", answer);
    }

    private void witnesses() {
        x.row(0, any(3), 8);
        for (int v = 0; v < 8; v++) {
            x.set(0, v, any(3) != 0 ? 2 + v : any(18));
        }
        calls += 9;
        String text = clauseText(1 + any(2));
        feed(text);
        int answer = x.witness(0);
        boolean[] now = solutions();
        if (answer >= 0) {
            witnessed++;
            Due.due(run + "by a witness " + text, leastPrice(now), leastPrice(solved));
        } else {
            Due.dueTrue(run + "without a witness all stays", Arrays.equals(now, solved));
        }
        solved = now;
    }

    private void solves() {
        int values = any(VALUES);
        int answer = x.solution(values);
        boolean isOne = answer >= 0;
        if (isOne) {
            Due.due(run + "its price", answer, priceOf(values));
            Due.due(run + "its price is the best", x.count(4), priceOf(values));
        }
        if (isOne || answer == SlackProofs.NONE) {
            Due.dueTrue(run + "solution " + values + " " + answer, solved[values] == isOne);
        }
        boolean isBound = isOne && priceOf(VALUES - 1) > 0;
        boolean[] left = solved.clone();
        for (int other = 0; other < VALUES; other++) {
            left[other] &= !isBound || priceOf(other) < answer;
        }
        solved = left;
        sameAfter("solution", answer);
    }

    // ---- what is told of them

    private void looks() {
        int count = 0, first = SlackProofs.NONE, least = leastPrice(solved);
        for (int values = VALUES - 1; values >= 0; values--) {
            count += solved[values] ? 1 : 0;
            first = solved[values] && priceOf(values) == least ? values : first;
        }
        int told = x.solutions(0);
        if (told != -1000016) {
            Due.due(run + "solutions", told, count);
            Due.due(run + "least price", x.solutions(1), count == 0 ? SlackProofs.NONE : least);
            Due.due(run + "first", x.solutions(2), first);
            forces(any(VALUES) & any(VALUES), any(VALUES));
        }
        calls += 6;
    }

    private void forces(int known, int given) {
        boolean isConflict = x.forced(known, given, 0) == 1;
        int then = x.forced(known, given, 1), ones = x.forced(known, given, 2);
        boolean isSo = isConflict || (then & known) == known && (ones & known) == (given & known);
        for (int values = 0; values < VALUES; values++) {
            if (solved[values] && (values & known) == (given & known)) {
                isSo &= !isConflict && (values & then) == ones;
            }
        }
        Due.dueTrue(run + "what is forced is so", isSo);
    }
}
