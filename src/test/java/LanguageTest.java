import java.lang.reflect.Field;
import java.lang.reflect.Member;
import java.lang.reflect.Method;
import java.lang.reflect.Modifier;
import java.nio.file.Files;
import java.nio.file.Path;
import java.util.Arrays;
import java.util.List;
import java.util.Map;
import java.util.Set;
import java.util.TreeMap;
import java.util.TreeSet;
import java.util.regex.Matcher;
import java.util.regex.Pattern;

/** The rules of LANGUAGE.md, as far as they can be seen from the source and the compiled class. */
public final class LanguageTest {
    private static final Checks CHECKS = new Checks();

    private static final String[] FACE = {"boolean line(int, int, boolean)", "boolean right(int, int, int, int, int)",
        "int breaks(int)", "int cable(int, int)", "int count(int)", "int counts(int, int, boolean, int)",
        "int edges(int)", "int end(int)", "int ends(int, int)", "int entries(int)", "int erase(int, int)",
        "int falls(int)", "int feed(int, int, int, int, int)", "int gap()", "int guessed(int)", "int joined(int, int)",
        "int kept(int)", "int known(int)", "int liars()", "int make(int, int, int)", "int makes(int, int, int)",
        "int needs(int, int, int)", "int neither(int, int)", "int octet(int)", "int of(int, int)",
        "int packed(int, int)", "int parts(int, int, int)", "int quarrel(int, int)", "int rank(int, int)",
        "int renew()", "int row(int, int, int, int, int)", "int rows(int, int, int, int)", "int seen(int, int)",
        "int shown(int, int)", "int taps(int)", "int tell(int, boolean)", "int way(int)", "int wish(int)",
        "int within(int, int)", "int worst(int)", "int worth(int, int, int)", "int write(int, int)", "int writes()",
        "int written(int)"};

    public static void main(String[] args) throws Exception {
        String source = Files.readString(Path.of(args.length > 0 ? args[0] : "src/main/java/WishWays.java"));
        face();
        nested();
        names();
        words(bare(source));
        lengths(source);
        depths(source);
        CHECKS.finish("LanguageTest");
    }

    private static String signature(Method m) {
        StringBuilder s = new StringBuilder(m.getReturnType() + " " + m.getName() + "(");
        for (Class<?> type : m.getParameterTypes()) {
            s.append(s.charAt(s.length() - 1) == '(' ? "" : ", ").append(type);
        }
        return s.append(")").toString();
    }

    private static boolean isHidden(Member m) {
        return Modifier.isPrivate(m.getModifiers());
    }

    private static void face() {
        Class<?> type = WishWays.class;
        CHECKS.due("rule 1, public and final", type.getModifiers(), Modifier.PUBLIC | Modifier.FINAL);
        Set<String> open = new TreeSet<>();
        for (Method m : type.getDeclaredMethods()) {
            if (!isHidden(m)) {
                open.add(signature(m));
                CHECKS.due("rule 1, " + m, m.getModifiers(), Modifier.PUBLIC);
            }
        }
        CHECKS.due("rule 1, methods", open.toString(), new TreeSet<>(List.of(FACE)).toString());
        for (Field f : type.getDeclaredFields()) {
            CHECKS.due("rule 1, " + f, isHidden(f) || f.getName().equals("NONE"), true);
        }
        CHECKS.due("rule 1, constructors", type.getDeclaredConstructors().length, 1);
        CHECKS.due("rule 1, constructor", type.getConstructors()[0].getParameterCount(), 0);
    }

    private static void nested() {
        Class<?>[] inside = WishWays.class.getDeclaredClasses();
        CHECKS.due("rule 11, classes", inside.length + 1 <= 12, true);
        for (Class<?> type : inside) {
            int modifiers = type.getModifiers();
            CHECKS.due("rule 2, static " + type, Modifier.isStatic(modifiers), true);
            CHECKS.due("rule 1, " + type, Modifier.isPublic(modifiers) || Modifier.isProtected(modifiers), false);
            CHECKS.due("rule 2, nothing inside " + type, type.getDeclaredClasses().length, 0);
        }
        for (Class<?> type : classes()) {
            int fields = 0;
            for (Field f : type.getDeclaredFields()) {
                boolean isStatic = Modifier.isStatic(f.getModifiers());
                CHECKS.due("rule 5, " + f, !isStatic || Modifier.isFinal(f.getModifiers()), true);
                fields += isStatic ? 0 : 1;
            }
            CHECKS.due("rule 11, fields of " + type, fields <= 20, true);
            for (Method m : type.getDeclaredMethods()) {
                CHECKS.due("rule 11, parameters of " + m, m.getParameterCount() <= 7, true);
                CHECKS.due("rule 2, no lambda " + m, m.isSynthetic(), false);
            }
        }
    }

    private static Class<?>[] classes() {
        Class<?>[] inside = WishWays.class.getDeclaredClasses();
        Class<?>[] all = Arrays.copyOf(inside, inside.length + 1);
        all[inside.length] = WishWays.class;
        return all;
    }

    private static void names() {
        Set<String> open = new TreeSet<>();
        for (String one : FACE) {
            open.add(one.substring(one.indexOf(' ') + 1, one.indexOf('(')));
        }
        for (Class<?> type : classes()) {
            for (Method m : type.getDeclaredMethods()) {
                boolean isFace = type == WishWays.class && !isHidden(m);
                CHECKS.due("rule 1, the name of " + m, isFace || !open.contains(m.getName()), true);
            }
        }
    }

    /** The source without comments, texts and signs. */
    private static String bare(String source) {
        return source.replaceAll("(?s)/\\*.*?\\*/", " ").replaceAll("//[^\n]*", " ")
                .replaceAll("\"(\\\\.|[^\"\\\\])*\"", "\"\"").replaceAll("'(\\\\.|[^'\\\\])'", "0");
    }

    private static void words(String code) {
        String[] forbidden = {"throw", "throws", "try", "catch", "finally", "synchronized", "assert", "instanceof",
            "package", "Object", "Random", "Thread", "hashCode", "equals", "toString", "while", "goto", "volatile",
            "transient", "native", "double", "float", "char", "String", "Exception"};
        for (String word : forbidden) {
            CHECKS.due("'" + word + "' stands in the source", Pattern.compile("\\b" + word + "\\b").matcher(code).find(), false);
        }
        CHECKS.due("rule 2, ->", code.contains("->"), false);
        CHECKS.due("rule 2, ::", code.contains("::"), false);
        Matcher library = Pattern.compile("\\b(import|System|Arrays|Math|Integer|Long)[ .]+([\\w.]+)").matcher(code);
        Set<String> allowed = Set.of("java.util.Arrays", "arraycopy", "fill", "min", "max", "bitCount");
        while (library.find()) {
            CHECKS.due("rule 4, " + library.group(), allowed.contains(library.group(2)), true);
        }
        Matcher loop = Pattern.compile("\\bfor \\(([^;)]*);([^;]*);").matcher(code);
        while (loop.find()) {
            boolean hasBound = loop.group(2).contains("<") || loop.group(2).contains(">");
            CHECKS.due("rule 9, a bound in " + loop.group(), hasBound, true);
        }
        CHECKS.due("characters", code.chars().allMatch(c -> c < 128), true);
    }

    /** Methods of one name count as one, which can only make the deepest way deeper. */
    private static void depths(String source) {
        Map<String, Set<String>> called = new TreeMap<>();
        Map<String, String> heads = new TreeMap<>();
        Pattern head = Pattern.compile("^ +(?:[\\w\\[\\]]+ )*(\\w+)\\([^;]*\\) \\{$");
        String open = "";
        for (String line : bare(source).split("\n")) {
            Matcher m = head.matcher(line);
            if (m.matches()) {
                open = m.group(1);
                called.putIfAbsent(open, new TreeSet<>());
                heads.put(open, line.trim());
                continue;
            }
            Matcher call = Pattern.compile("(\\w+)\\(").matcher(line);
            while (!open.isEmpty() && call.find()) {
                called.get(open).add(call.group(1));
            }
        }
        CHECKS.due("rule 11, methods are found", called.size() > 100, true);
        for (String name : called.keySet()) {
            CHECKS.due("rule 11, calls below " + name, deepest(name, called, new TreeSet<>()) <= 8, true);
            if (called.get(name).contains(name)) {
                CHECKS.due("rule 8, " + name + " calls itself", heads.get(name).startsWith("private static"), true);
            } else if (reaches(name, name, called, new TreeSet<>())) {
                CHECKS.due("rule 8, " + name + " comes back", heads.get(name).startsWith("private"), true);
            }
        }
    }

    private static boolean reaches(String from, String to, Map<String, Set<String>> called, Set<String> met) {
        for (String next : called.getOrDefault(from, Set.of())) {
            if (next.equals(to) || met.add(next) && reaches(next, to, called, met)) {
                return true;
            }
        }
        return false;
    }

    private static int deepest(String name, Map<String, Set<String>> called, Set<String> open) {
        if (!called.containsKey(name) || !open.add(name)) {
            return 0;
        }
        int below = 0;
        for (String next : called.get(name)) {
            below = Math.max(below, deepest(next, called, open));
        }
        open.remove(name);
        return below + 1;
    }

    private static void lengths(String source) {
        String[] lines = source.split("\n");
        Pattern head = Pattern.compile("^( +)[\\w\\[\\]. ]+\\([^;]*\\) \\{$");
        for (int i = 0; i < lines.length; i++) {
            Matcher m = head.matcher(lines[i]);
            if (m.matches() && !lines[i].trim().matches("(if|for|switch|\\}|return).*")) {
                int last = i;
                while (last < lines.length && !lines[last].equals(m.group(1) + "}")) {
                    last++;
                }
                CHECKS.due("rule 11, lines of " + lines[i].trim(), last - i <= 60, true);
            }
        }
    }
}
