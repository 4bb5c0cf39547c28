import java.io.IOException;
import java.lang.reflect.Constructor;
import java.lang.reflect.Field;
import java.lang.reflect.Member;
import java.lang.reflect.Method;
import java.lang.reflect.Modifier;
import java.nio.file.Files;
import java.nio.file.Path;
import java.util.ArrayList;
import java.util.Arrays;
import java.util.List;
import java.util.TreeSet;
import java.util.regex.Matcher;
import java.util.regex.Pattern;

/** The face of the class, and the rules of the language that can be read off its text or its members. */
final class LanguageTest {
    private static final Checks checks = new Checks("LanguageTest");
    private static final String[] FACE = {
        "int machine(int,int)", "int ring(int)", "int move(int,int,int,int)", "int light(int,int,int)",
        "int price(int,int,int)", "int share(int,int,int)", "int about(int,int)", "int moveOf(int,int,int)",
        "int empty()", "int letter(int)", "int letterAt(int)", "int goes(int,int)", "int shortest(int,int)",
        "int shortestTo(int,int,int)", "int rank(int,int)", "int merge(int,int,int)", "int unmerged(int)",
        "int greedy(int,int)", "int cheapest(int,int)", "long chance(int,int,int)", "long chances(int,int)",
        "int kinds(int)", "int colour(int)", "int apart(int,int,int)", "int count(int)", "long digest()"};
    private static final String[] NOT_THERE = {
        "\\bthrows?\\b", "\\btry\\b", "\\bcatch\\b", "\\bsynchronized\\b", "\\bassert\\b", "->", "::", "\\bnew [^\\n]*\\(.*\\) \\{",
        "System\\.(?!arraycopy)", "\\bThread\\b", "\\bRandom\\b", "Exact\\(", "\\bObject\\b", "\\bequals\\b", "\\bhashCode\\b",
        "\\btoString\\b", "\\bstatic \\{"};

    private LanguageTest() {
    }

    public static void main(String[] args) throws IOException {
        face();
        classes();
        text(Files.readString(Path.of("src/main/java/WordBench.java")));
        checks.end();
    }

    private static void face() {
        checks.holds("public and final", Modifier.isPublic(WordBench.class.getModifiers())
            && Modifier.isFinal(WordBench.class.getModifiers()));
        TreeSet<String> open = new TreeSet<>();
        TreeSet<String> names = new TreeSet<>();
        for (Method m : WordBench.class.getDeclaredMethods()) {
            if (Modifier.isPrivate(m.getModifiers())) {
                continue;
            }
            StringBuilder row = new StringBuilder(m.getReturnType() + " " + m.getName() + "(");
            for (Class<?> c : m.getParameterTypes()) {
                row.append(row.charAt(row.length() - 1) == '(' ? "" : ",").append(c.getName());
            }
            open.add(row.append(")").toString());
            names.add(m.getName());
            checks.holds(row + " is public", Modifier.isPublic(m.getModifiers()) && !Modifier.isStatic(m.getModifiers()));
        }
        TreeSet<String> due = new TreeSet<>(Arrays.asList(FACE));
        checks.holds("just the document's methods: " + open, open.equals(due));
        for (Method m : WordBench.class.getDeclaredMethods()) {
            checks.holds(m.getName() + ": no private one bears its name",
                !Modifier.isPrivate(m.getModifiers()) || !names.contains(m.getName()));
        }
        TreeSet<String> constants = new TreeSet<>();
        for (Field f : WordBench.class.getDeclaredFields()) {
            if (!Modifier.isPrivate(f.getModifiers())) {
                constants.add(Modifier.toString(f.getModifiers()) + " " + f.getType() + " " + f.getName());
            }
        }
        checks.holds("just the document's constants: " + constants, constants.equals(new TreeSet<>(Arrays.asList(
            "public static final int NONE", "public static final int BAD", "public static final int NO",
            "public static final int FULL"))));
        Constructor<?>[] constructors = WordBench.class.getDeclaredConstructors();
        checks.holds("one public constructor without parameters", constructors.length == 1
            && Modifier.isPublic(constructors[0].getModifiers()) && constructors[0].getParameterCount() == 0);
    }

    private static void classes() {
        Class<?>[] inside = WordBench.class.getDeclaredClasses();
        checks.holds("some twelve classes", inside.length + 1 <= 12);
        List<Class<?>> all = new ArrayList<>(Arrays.asList(inside));
        all.add(WordBench.class);
        for (Class<?> c : all) {
            checks.holds(c + " is static", c == WordBench.class || Modifier.isStatic(c.getModifiers()));
            checks.due(c + " holds no more classes", c == WordBench.class ? 0 : c.getDeclaredClasses().length, 0);
            int fields = 0;
            for (Field f : c.getDeclaredFields()) {
                fields += Modifier.isStatic(f.getModifiers()) ? 0 : 1;
                checks.holds(f + ": no static state", !Modifier.isStatic(f.getModifiers()) || Modifier.isFinal(f.getModifiers()));
                checks.holds(f + ": not made by the compiler", !((Member) f).isSynthetic());
            }
            checks.holds(c + " has few fields", fields <= 20);
            for (Method m : c.getDeclaredMethods()) {
                checks.holds(m + ": seven parameters at most", m.getParameterCount() <= 7);
                checks.holds(m + ": not made by the compiler", !m.isSynthetic());
            }
        }
    }

    private static void text(String whole) {
        for (int i = 0; i < whole.length(); i++) {
            if (whole.charAt(i) > 126) {
                checks.holds("sign " + (int) whole.charAt(i), false);
            }
        }
        String code = whole.replaceAll("(?s)/\\*.*?\\*/", "").replaceAll("//[^\n]*", "");
        for (String word : NOT_THERE) {
            Matcher found = Pattern.compile(word).matcher(code);
            checks.holds("no " + word, !found.find());
        }
        Matcher imports = Pattern.compile("import ([^;]*);").matcher(code);
        while (imports.find()) {
            checks.holds("import " + imports.group(1), imports.group(1).equals("java.util.Arrays"));
        }
        checks.holds("no package", !code.contains("package "));
        // a method begins and ends at the indent of its class's members
        Matcher method = Pattern.compile("(?m)^( {4}| {8})(?! )[^\\n;=]*\\) \\{\\n(?s:.*?)^\\1\\}$").matcher(code);
        int seen = 0;
        while (method.find()) {
            seen++;
            long lines = method.group().lines().count();
            checks.holds("short: " + method.group().lines().findFirst().orElse("") + " " + lines, lines <= 60);
        }
        checks.holds("methods seen: " + seen, seen > 60);
    }
}
