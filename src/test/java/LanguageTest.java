import java.io.IOException;
import java.lang.reflect.Field;
import java.lang.reflect.Method;
import java.lang.reflect.Modifier;
import java.nio.file.Files;
import java.nio.file.Path;
import java.util.ArrayList;
import java.util.Arrays;
import java.util.List;
import java.util.Map;
import java.util.Set;
import java.util.TreeMap;
import java.util.TreeSet;
import java.util.regex.Matcher;
import java.util.regex.Pattern;

/** The face of the document, and the rules of LANGUAGE.md that can be seen from the text. */
public final class LanguageTest {
    private static final String[] FACE = {
        "int row(int,int,int)", "int set(int,int,int)", "int copy(int,int,int,int,int)", "int drop(int)",
        "int feed(int)", "int formula()", "int fault()", "int plus(int,int)", "int times(int,int)",
        "int split(int,int)", "int saturate(int)", "int weaken(int,int)", "int axiom(int,int)",
        "int claim()", "int witness(int)", "int solution(int)", "int remove(int)", "int undo()",
        "long degree(int)", "long coefficient(int,int)", "long sum(int)", "long slack(int,int,int)",
        "int forced(int,int,int)", "int solutions(int)", "int holds(int)", "int follows(int)",
        "int verdict()", "int price(int)", "int image(int)", "int restore(int)", "int kind(int)",
        "int as(int,int)", "int ask(int,int)", "int trace(int)", "int count(int)", "int status()"};

    private static final String[] RULED_OUT = {
        "\\bthrow\\b", "\\bthrows\\b", "\\btry\\b", "\\bcatch\\b", "\\bsynchronized\\b", "\\bassert\\b",
        "->", "::", "Exact\\b", "\\bprotected\\b", "^package\\b", "\\bnative\\b", "\\bThread\\b",
        "\\bcurrentTimeMillis\\b", "\\bnanoTime\\b", "\\brandom\\b", "\\bdouble\\b", "\\bfloat\\b",
        "static\\s*\\{", "\\bvolatile\\b", "\\btransient\\b", "\\.equals\\(", "\\bhashCode\\b", "\\btoString\\b"};

    /** What the class may take from the library (rule 4); any other word with a great letter is its own. */
    private static final Set<String> LIBRARY = Set.of("Arrays.fill", "Arrays.copyOf", "Arrays.copyOfRange",
            "System.arraycopy", "Math.abs", "Math.max", "Math.min", "Math.floorDiv", "Math.floorMod",
            "Integer.bitCount", "Integer.compare", "Long.bitCount", "Long.compare");
    private static final Pattern TAKEN = Pattern.compile(
            "(?<![.\\w])(Arrays|System|Math|StrictMath|Integer|Long|Short|Byte|Character|Boolean|String|Objects)\\.(\\w+)");

    /** How a method begins, within the class and within the classes inside it. */
    private static final Pattern BEGINS = Pattern.compile("^( {4}| {8})[A-Za-z].*\\) \\{$");

    public static void main(String[] args) throws IOException {
        face();
        fields(SlackProofs.class);
        for (Class<?> inside : SlackProofs.class.getDeclaredClasses()) {
            Due.dueTrue(inside + " is static", Modifier.isStatic(inside.getModifiers()));
            Due.dueTrue(inside + " is not public", !Modifier.isPublic(inside.getModifiers()));
            fields(inside);
            methods(inside);
        }
        methods(SlackProofs.class);
        Due.dueTrue("at most 12 classes", SlackProofs.class.getDeclaredClasses().length < 12);
        List<String> lines = Files.readAllLines(Path.of("src/main/java/SlackProofs.java"));
        text(lines);
        library(lines);
        new Calls(lines).dueShallow();
        Due.end("LanguageTest");
    }

    private static void face() {
        Set<String> seen = new TreeSet<>();
        for (Method m : SlackProofs.class.getDeclaredMethods()) {
            if (Modifier.isPublic(m.getModifiers())) {
                seen.add(m.getReturnType() + " " + m.getName()
                        + Arrays.toString(m.getParameterTypes()).replace('[', '(').replace(']', ')').replace(" ", ""));
            }
        }
        Due.dueTrue("the face is " + seen, seen.equals(new TreeSet<>(List.of(FACE))));
        Due.dueTrue("the class is final", Modifier.isFinal(SlackProofs.class.getModifiers()));
        Due.due("constructors", SlackProofs.class.getConstructors().length, 1);
        Due.due("constants", SlackProofs.class.getFields().length, 4);
        Due.due("NONE", SlackProofs.NONE, -1000000);
        Due.due("BAD", SlackProofs.BAD, -1000001);
        Due.due("STATE", SlackProofs.STATE, -1000002);
        Due.due("FULL", SlackProofs.FULL, -1000003);
    }

    private static void fields(Class<?> type) {
        int own = 0;
        for (Field f : type.getDeclaredFields()) {
            boolean isStatic = Modifier.isStatic(f.getModifiers());
            own += isStatic ? 0 : 1;
            Due.dueTrue(f + " is final if static", !isStatic || Modifier.isFinal(f.getModifiers()));
            if (type == SlackProofs.class) {
                Due.dueTrue(f + " is private or public",
                        (f.getModifiers() & (Modifier.PUBLIC | Modifier.PRIVATE)) != 0);
            }
        }
        Due.dueTrue(type + " has at most 20 fields", own <= 20);
    }

    private static void methods(Class<?> type) {
        Set<String> names = new TreeSet<>();
        for (String call : FACE) {
            names.add(call.substring(call.indexOf(' ') + 1, call.indexOf('(')));
        }
        for (Method m : type.getDeclaredMethods()) {
            boolean isPublic = Modifier.isPublic(m.getModifiers());
            Due.dueTrue(m + " has at most 7 parameters", m.getParameterCount() <= 7);
            Due.dueTrue(m + " has a name of its own", isPublic || !names.contains(m.getName()));
            Due.dueTrue(m + " is public or private", type != SlackProofs.class || isPublic
                    || Modifier.isPrivate(m.getModifiers()));
        }
    }

    private static void text(List<String> lines) {
        int from = -1;
        String indent = "";
        for (int i = 0; i < lines.size(); i++) {
            String line = withoutComment(lines.get(i));
            for (String ruledOut : RULED_OUT) {
                Due.dueTrue("line " + (i + 1) + " has no " + ruledOut, !Pattern.compile(ruledOut).matcher(line).find());
            }
            Due.dueTrue("line " + (i + 1) + " imports what is free",
                    !line.startsWith("import") || line.matches("import java\\.util\\.(Arrays|ArrayList|List|Iterator);"));
            Due.dueTrue("line " + (i + 1) + " makes nothing within a call", !line.matches(".*\\bnew\\b.*")
                    || from < 0 || isConstructor(lines.get(from)));
            Matcher matcher = BEGINS.matcher(line);
            if (from < 0 && matcher.find()) {
                from = i;
                indent = matcher.group(1);
            } else if (from >= 0 && line.equals(indent + "}")) {
                Due.dueTrue("the method at line " + (from + 1) + " is short", i - from <= 60);
                from = -1;
            }
        }
    }

    private static void library(List<String> lines) {
        for (String line : lines) {
            Matcher taken = TAKEN.matcher(line.startsWith("import") ? "" : withoutComment(line));
            while (taken.find()) {
                Due.dueTrue(taken.group() + " is listed", LIBRARY.contains(taken.group()));
            }
        }
    }

    private static String withoutComment(String line) {
        return line.replaceAll("//.*|/\\*\\*.*|^ *\\*.*", "");
    }

    /**
     * Which method calls which, by names alone, so that a path may be told too long but none too
     * short. Methods that reach one another are recursion, and count as one level (rule 11).
     */
    private static final class Calls {
        final Map<String, Set<String>> called = new TreeMap<>();

        Calls(List<String> lines) {
            Pattern name = Pattern.compile("(\\w+)\\(");
            String method = null, indent = "";
            for (String whole : lines) {
                String line = withoutComment(whole);
                Matcher begins = BEGINS.matcher(line), names = name.matcher(line);
                if (method == null && begins.matches() && names.find()) {
                    method = names.group(1);
                    indent = begins.group(1);
                    called.computeIfAbsent(method, m -> new TreeSet<>());
                } else if (line.equals(indent + "}")) {
                    method = null;
                }
                while (method != null && names.find()) {
                    called.get(method).add(names.group(1));
                }
            }
            for (Set<String> names : called.values()) {
                names.retainAll(called.keySet());
            }
        }

        void dueShallow() {
            Due.dueTrue("methods are found", called.size() > FACE.length);
            Due.dueTrue("calls are found", depth("witness") > 5);
            for (String method : called.keySet()) {
                Due.dueTrue(method + " goes " + depth(method) + " deep", depth(method) <= 8);
            }
        }

        int depth(String method) {
            Set<String> level = new TreeSet<>(List.of(method));
            for (String other : reached(method)) {
                if (reached(other).contains(method)) {
                    level.add(other);
                }
            }
            int deepest = 0;
            for (String one : level) {
                for (String next : called.get(one)) {
                    deepest = level.contains(next) ? deepest : Math.max(deepest, depth(next));
                }
            }
            return 1 + deepest;
        }

        Set<String> reached(String method) {
            Set<String> seen = new TreeSet<>();
            List<String> open = new ArrayList<>(called.get(method));
            while (!open.isEmpty()) {
                String next = open.remove(open.size() - 1);
                if (seen.add(next)) {
                    open.addAll(called.get(next));
                }
            }
            return seen;
        }
    }

    private static boolean isConstructor(String line) {
        return line.matches(" +(public )?[A-Z]\\w*\\(.*\\) \\{");
    }
}
