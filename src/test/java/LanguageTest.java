import java.io.IOException;
import java.lang.reflect.Constructor;
import java.lang.reflect.Field;
import java.lang.reflect.Method;
import java.lang.reflect.Modifier;
import java.nio.file.Files;
import java.nio.file.Path;
import java.util.Arrays;
import java.util.HashSet;
import java.util.Map;
import java.util.Set;
import java.util.TreeMap;
import java.util.TreeSet;
import java.util.regex.Matcher;
import java.util.regex.Pattern;

/** The face of the document, and those rules of LANGUAGE.md that a program can look at. */
public final class LanguageTest {
    private static final String[] FACE = {"feed 1", "rock 0", "fault 0", "told 1", "village 2", "comes 1", "blessed 1",
        "day 1", "calendar 2", "drift 1", "undo 0", "whenDown 0", "ahead 2", "certain 2", "away 1", "smoke 2", "inn 1",
        "feet 2", "odds 1", "see 2", "went 2", "write 2", "tear 0", "judge 0", "seed 1", "keep 1", "goBack 1"};

    private final Check c = new Check();
    private final String code;

    private LanguageTest(String source) {
        code = withoutCommentsAndTexts(source);
    }

    public static void main(String[] args) throws IOException {
        Path file = Path.of(System.getProperty("project", "."), "src/main/java/OneADay.java");
        LanguageTest test = new LanguageTest(Files.readString(file));
        test.face();
        test.classes();
        test.words();
        test.library();
        test.lengths();
        test.calls();
        test.c.end();
    }

    private static String withoutCommentsAndTexts(String source) {
        return source.replaceAll("(?s)/\\*.*?\\*/", "").replaceAll("//[^\n]*", "")
            .replaceAll("\"(\\\\.|[^\"\\\\])*\"", "\"\"").replaceAll("'(\\\\.|[^'\\\\])'", "'c'");
    }

    private void face() {
        Class<OneADay> type = OneADay.class;
        c.holds("public and final", Modifier.isPublic(type.getModifiers()) && Modifier.isFinal(type.getModifiers()));
        Set<String> wanted = new TreeSet<>(Arrays.asList(FACE)), found = new TreeSet<>(), names = new TreeSet<>();
        for (String row : FACE) names.add(row.substring(0, row.indexOf(' ')));
        for (Method m : type.getDeclaredMethods()) {
            if (Modifier.isPrivate(m.getModifiers())) {
                c.holds("1: private " + m.getName() + " has a name of its own", !names.contains(m.getName()));
                continue;
            }
            c.holds("1: public " + m.getName(), Modifier.isPublic(m.getModifiers()) && !Modifier.isStatic(m.getModifiers()));
            c.holds("1: int " + m.getName(), m.getReturnType() == int.class);
            for (Class<?> p : m.getParameterTypes()) c.holds("1: int in " + m.getName(), p == int.class);
            found.add(m.getName() + " " + m.getParameterCount());
        }
        c.holds("1: the calls are those of the document: " + found, found.equals(wanted));
        Constructor<?>[] makers = type.getDeclaredConstructors();
        c.holds("1: one public constructor", makers.length == 1 && Modifier.isPublic(makers[0].getModifiers())
            && makers[0].getParameterCount() == 0);
        Set<String> constants = new TreeSet<>();
        for (Field f : type.getDeclaredFields()) if (!Modifier.isPrivate(f.getModifiers())) constants.add(f.getName());
        c.holds("1: the constants are those of the document: " + constants,
            constants.equals(new TreeSet<>(Arrays.asList("NONE", "UNKNOWN", "OUTSIDE", "NOT", "FULL"))));
    }

    private void classes() {
        Class<?>[] inside = OneADay.class.getDeclaredClasses();
        c.holds("11: at most twelve classes", inside.length < 12);
        fields(OneADay.class);
        for (Class<?> type : inside) {
            c.holds("2: static " + type, Modifier.isStatic(type.getModifiers()));
            c.holds("1: not public " + type, !Modifier.isPublic(type.getModifiers()) && !Modifier.isProtected(type.getModifiers()));
            c.holds("2: none inside " + type, type.getDeclaredClasses().length == 0);
            fields(type);
        }
    }

    private void fields(Class<?> type) {
        int many = 0;
        for (Field f : type.getDeclaredFields()) {
            if (!Modifier.isStatic(f.getModifiers())) many++;
            else c.holds("5: final " + f, Modifier.isFinal(f.getModifiers()));
        }
        c.holds("11: at most twenty fields in " + type + ": " + many, many <= 20);
        for (Method m : type.getDeclaredMethods()) c.holds("11: seven parameters in " + m, m.getParameterCount() <= 7);
    }

    private void words() {
        String[] not = {"throw", "throws", "try", "catch", "finally", "synchronized", "assert", "Exception", "Error",
            "package", "volatile", "native", "hashCode", "toString", "var", "yield", "double", "float"};
        for (String word : not) c.holds("6: no " + word, !Pattern.compile("\\b" + word + "\\b").matcher(code).find());
        c.holds("2: no lambda, no reference", !code.contains("->") && !code.contains("::"));
        c.holds("3: no text beyond 127", code.chars().allMatch(sign -> sign < 128));
        c.holds("10: no joining by +", !code.contains("\"\" +") && !code.contains("+ \"\""));
        c.holds("5: no static block", !Pattern.compile("static\\s*\\{").matcher(code).find());
        c.holds("9: no endless loop", !Pattern.compile("while\\s*\\(true\\)|for\\s*\\(\\s*;").matcher(code).find());
        c.holds("one public type", code.split("\\bpublic final class\\b", -1).length == 2);
    }

    private void library() {
        Matcher imports = Pattern.compile("import ([^;]+);").matcher(code);
        while (imports.find()) c.holds("4: import " + imports.group(1), imports.group(1).equals("java.util.Arrays"));
        Set<String> listed = new TreeSet<>(Arrays.asList("Arrays.fill", "Arrays.copyOf", "Arrays.copyOfRange",
            "System.arraycopy", "Math.min", "Math.max", "Math.abs", "Integer.bitCount"));
        Matcher calls = Pattern.compile("\\b(Arrays|System|Math|Integer|Long|String|Character|Boolean)\\.(\\w+)").matcher(code);
        while (calls.find()) c.holds("4: " + calls.group(), listed.contains(calls.group()));
    }

    private void lengths() {
        Matcher heads = Pattern.compile("(?m)^( +)[\\w\\[\\] ]+\\([^;{]*\\) \\{\n").matcher(code);
        int many = 0;
        while (heads.find()) {
            int end = code.indexOf("\n" + heads.group(1) + "}", heads.end() - 1);
            long lines = code.substring(heads.start(), end < 0 ? code.length() : end).chars().filter(s -> s == '\n').count();
            c.holds("11: at most sixty lines: " + heads.group().trim() + " has " + lines, lines <= 60);
            many++;
        }
        c.holds("methods were found: " + many, many > 60);
    }

    /** Methods of one name are taken for one: the way through them can only be found longer by that. */
    private void calls() {
        Map<String, Set<String>> called = new TreeMap<>();
        Map<String, String> heads = new TreeMap<>();
        Matcher head = Pattern.compile("(?m)^( +)([\\w\\[\\] ]*\\b(\\w+)\\([^;{]*\\)) \\{\n").matcher(code);
        while (head.find()) {
            String name = head.group(3);
            if (name.equals("if") || name.equals("for") || name.equals("while") || name.equals("switch")) continue;
            int end = code.indexOf("\n" + head.group(1) + "}", head.end() - 1);
            Matcher call = Pattern.compile("\\b(\\w+)\\(").matcher(code.substring(head.end(), end < 0 ? code.length() : end));
            heads.put(name, head.group(2));
            Set<String> names = called.computeIfAbsent(name, key -> new TreeSet<>());
            while (call.find()) names.add(call.group(1));
        }
        for (String name : called.keySet()) {
            boolean itself = called.get(name).contains(name);
            c.holds("8: who calls itself is private static: " + name, !itself || heads.get(name).startsWith("private static "));
        }
        for (String row : FACE) {
            String name = row.substring(0, row.indexOf(' '));
            int deep = depth(called, name, new HashSet<>());
            c.holds("11: calls at most eight deep: " + name + " goes " + deep, called.containsKey(name) && deep <= 8);
        }
    }

    private static int depth(Map<String, Set<String>> called, String name, Set<String> open) {
        if (!called.containsKey(name) || !open.add(name)) return 0;
        int most = 0;
        for (String next : called.get(name)) most = Math.max(most, depth(called, next, open));
        open.remove(name);
        return most + 1;
    }
}
