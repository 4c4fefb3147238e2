import java.util.ArrayList;
import java.util.List;

/** What the tests share: answers that are due, texts fed to a tape, and the closing line. */
final class Due {
    private static int passed = 0;
    private static final List<String> wrong = new ArrayList<>();

    private Due() { }

    static void due(String call, long got, long want) {
        if (got == want) {
            passed++;
        } else {
            wrong.add(call + " answered " + got + ", due is " + want);
        }
    }

    static void dueTrue(String what, boolean holds) {
        due(what, holds ? 1 : 0, 1);
    }

    static void feed(SlackProofs x, String text) {
        for (int i = 0; i < text.length(); i++) {
            x.feed(text.charAt(i));
        }
    }

    static SlackProofs read(String text) {
        SlackProofs x = new SlackProofs();
        feed(x, text);
        int clauses = x.formula();
        if (clauses < 0) {
            wrong.add("formula " + text + " answered " + clauses);
        }
        return x;
    }

    static int claim(SlackProofs x, String text) {
        feed(x, text);
        return x.claim();
    }

    static int witness(SlackProofs x, String text, int row) {
        feed(x, text);
        return x.witness(row);
    }

    /** The literals and the degree of a clause as one text: "2x0 3~x1 >= 3". */
    static String told(SlackProofs x, int a) {
        StringBuilder text = new StringBuilder();
        for (int v = 0; v < 8; v++) {
            long c = x.coefficient(a, v);
            if (c != 0) {
                text.append(Math.abs(c)).append(c < 0 ? "~x" : "x").append(v).append(' ');
            }
        }
        return text.append(">= ").append(x.degree(a)).toString();
    }

    static void dueTold(SlackProofs x, int a, String want) {
        String got = told(x, a);
        if (got.equals(want)) {
            passed++;
        } else {
            wrong.add("clause " + a + " is " + got + ", due is " + want);
        }
    }

    static void end(String test) {
        for (int i = 0; i < wrong.size() && i < 40; i++) {
            System.out.println(test + ": " + wrong.get(i));
        }
        System.out.println(test + ": " + passed + " passed, " + wrong.size() + " failed");
        if (!wrong.isEmpty()) {
            System.exit(1);
        }
    }
}
