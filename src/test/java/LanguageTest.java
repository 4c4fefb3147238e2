import java.io.IOException;
import java.lang.reflect.Field;
import java.lang.reflect.Method;
import java.lang.reflect.Modifier;
import java.nio.file.Files;
import java.nio.file.Path;
import java.util.Arrays;
import java.util.List;
import java.util.Set;
import java.util.TreeSet;
import java.util.regex.Matcher;
import java.util.regex.Pattern;

/** The face of the document, and the rules of LANGUAGE.md that can be seen from the text. */
public final class LanguageTest {
    private static final String[] FACE = {
        "int row(int,int,int)", "int set(int,int,int)", "int copy(int,int,int,int,int)", "int drop(int)",
        "int feed(int)", "int formula()", "int fault()", "int plus(int,int)", "int times(int,int)",
        "int split(int,int)", "int saturate(int)", "int weaken(int,int)", "int axiom(int,int)",
        "int claim()", "int witness(int)", "int solution(int)", "int remove(int)", "int undo()",
        "long degree(int)", "long coefficient(int,int)", "long sum(int)", "long slack(int,int,int)",
        "int forced(int,int,int)", "int solutions(int)", "int holds(int)", "int follows(int)",
        "int verdict()", "int price(int)", "int image(int)", "int restore(int)", "int kind(int)",
        "int as(int,int)", "int ask(int,int)", "int trace(int)", "int count(int)", "int status()"};

    private static final String[] RULED_OUT = {
        "\\bthrow\\b", "\\bthrows\\b", "\\btry\\b", "\\bcatch\\b", "\\bsynchronized\\b", "\\bassert\\b",
        "->", "::", "Exact\\b", "\\bprotected\\b", "^package\\b", "\\bnative\\b", "\\bThread\\b",
        "\\bcurrentTimeMillis\\b", "\\bnanoTime\\b", "\\brandom\\b", "\\bdouble\\b", "\\bfloat\\b",
        "static\\s*\\{", "\\bvolatile\\b", "\\btransient\\b", "\\.equals\\(", "\\bhashCode\\b", "\\btoString\\b"};

    public static void main(String[] args) throws IOException {
        face();
        fields(SlackProofs.class);
        for (Class<?> inside : SlackProofs.class.getDeclaredClasses()) {
            Due.dueTrue(inside + " is static", Modifier.isStatic(inside.getModifiers()));
            Due.dueTrue(inside + " is not public", !Modifier.isPublic(inside.getModifiers()));
            fields(inside);
            methods(inside);
        }
        methods(SlackProofs.class);
        Due.dueTrue("at most 12 classes", SlackProofs.class.getDeclaredClasses().length < 12);
        text(Files.readAllLines(Path.of("src/main/java/SlackProofs.java")));
        Due.end("LanguageTest");
    }

    private static void face() {
        Set<String> seen = new TreeSet<>();
        for (Method m : SlackProofs.class.getDeclaredMethods()) {
            if (Modifier.isPublic(m.getModifiers())) {
                seen.add(m.getReturnType() + " " + m.getName()
                        + Arrays.toString(m.getParameterTypes()).replace('[', '(').replace(']', ')').replace(" ", ""));
            }
        }
        Due.dueTrue("the face is " + seen, seen.equals(new TreeSet<>(List.of(FACE))));
        Due.dueTrue("the class is final", Modifier.isFinal(SlackProofs.class.getModifiers()));
        Due.due("constructors", SlackProofs.class.getConstructors().length, 1);
        Due.due("constants", SlackProofs.class.getFields().length, 4);
        Due.due("NONE", SlackProofs.NONE, -1000000);
        Due.due("BAD", SlackProofs.BAD, -1000001);
        Due.due("STATE", SlackProofs.STATE, -1000002);
        Due.due("FULL", SlackProofs.FULL, -1000003);
    }

    private static void fields(Class<?> type) {
        int own = 0;
        for (Field f : type.getDeclaredFields()) {
            boolean isStatic = Modifier.isStatic(f.getModifiers());
            own += isStatic ? 0 : 1;
            Due.dueTrue(f + " is final if static", !isStatic || Modifier.isFinal(f.getModifiers()));
            if (type == SlackProofs.class) {
                Due.dueTrue(f + " is private or public",
                        (f.getModifiers() & (Modifier.PUBLIC | Modifier.PRIVATE)) != 0);
            }
        }
        Due.dueTrue(type + " has at most 20 fields", own <= 20);
    }

    private static void methods(Class<?> type) {
        Set<String> names = new TreeSet<>();
        for (String call : FACE) {
            names.add(call.substring(call.indexOf(' ') + 1, call.indexOf('(')));
        }
        for (Method m : type.getDeclaredMethods()) {
            boolean isPublic = Modifier.isPublic(m.getModifiers());
            Due.dueTrue(m + " has at most 7 parameters", m.getParameterCount() <= 7);
            Due.dueTrue(m + " has a name of its own", isPublic || !names.contains(m.getName()));
            Due.dueTrue(m + " is public or private", type != SlackProofs.class || isPublic
                    || Modifier.isPrivate(m.getModifiers()));
        }
    }

    private static void text(List<String> lines) {
        Pattern begins = Pattern.compile("^( {4}| {8})[A-Za-z].*\\) \\{$");
        int from = -1;
        String indent = "";
        for (int i = 0; i < lines.size(); i++) {
            String line = lines.get(i).replaceAll("//.*|/\\*\\*.*|^ *\\*.*", "");
            for (String ruledOut : RULED_OUT) {
                Due.dueTrue("line " + (i + 1) + " has no " + ruledOut, !Pattern.compile(ruledOut).matcher(line).find());
            }
            Due.dueTrue("line " + (i + 1) + " imports what is free",
                    !line.startsWith("import") || line.matches("import java\\.util\\.(Arrays|ArrayList|List|Iterator);"));
            Due.dueTrue("line " + (i + 1) + " makes nothing within a call", !line.matches(".*\\bnew\\b.*")
                    || from < 0 || isConstructor(lines.get(from)));
            Matcher matcher = begins.matcher(line);
            if (from < 0 && matcher.find()) {
                from = i;
                indent = matcher.group(1);
            } else if (from >= 0 && line.equals(indent + "}")) {
                Due.dueTrue("the method at line " + (from + 1) + " is short", i - from <= 60);
                from = -1;
            }
        }
    }

    private static boolean isConstructor(String line) {
        return line.matches(" +(public )?[A-Z]\\w*\\(.*\\) \\{");
    }
}
