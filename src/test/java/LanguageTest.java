import java.io.IOException;
import java.lang.reflect.Constructor;
import java.lang.reflect.Field;
import java.lang.reflect.Member;
import java.lang.reflect.Method;
import java.lang.reflect.Modifier;
import java.nio.file.Files;
import java.nio.file.Path;
import java.util.ArrayList;
import java.util.Arrays;
import java.util.Collections;
import java.util.HashMap;
import java.util.List;
import java.util.Map;
import java.util.Set;
import java.util.TreeSet;
import java.util.regex.Matcher;
import java.util.regex.Pattern;

/** The document's face, and those rules of LANGUAGE.md that can be seen from the text or from the class. */
public final class LanguageTest {
    private static final String[] FACE = {
        "int set(int, int, int)", "int property(int, int)", "int setServer(int, int)", "int setDiscipline(int)",
        "int setSwitch(int, boolean)", "int surge(int, int, int, int)", "int run(int)", "int ifRun(int, int)",
        "int bestDiscipline(int)", "int count(int, int)", "int succeededAt(int, int)", "int told(int)",
        "int live(int)", "int request(int, int)", "int queued(boolean, int)", "int atWorker(boolean, int)",
        "int window(int, int)", "int quiet(int)", "int recovery(int, int)", "int amplification()", "int undo()",
        "long digest()"};
    private static final String[] FORBIDDEN = {"throw", "throws", "try", "catch", "finally", "synchronized", "assert",
        "volatile", "transient", "native", "strictfp", "protected", "instanceof", "record", "enum", "interface",
        "equals", "hashCode", "toString", "float", "double", "package", "yield"};
    private static final Check check = new Check("LanguageTest");

    public static void main(String[] args) throws IOException {
        face();
        classes();
        String text = Files.readString(Path.of("src/main/java/RetryStorm.java"));
        text(text);
        methods(strip(text));
        check.end();
    }

    private static boolean isSynthetic(Member m) {
        return m.isSynthetic();
    }

    private static void face() {
        check.part("rule 1");
        check.holds("public and final", RetryStorm.class.getModifiers() == (Modifier.PUBLIC | Modifier.FINAL));
        Set<String> due = new TreeSet<>(Arrays.asList(FACE));
        Set<String> are = new TreeSet<>();
        Set<String> names = new TreeSet<>();
        for (Method m : RetryStorm.class.getDeclaredMethods()) {
            if (Modifier.isPublic(m.getModifiers())) {
                String types = Arrays.toString(m.getParameterTypes()).replace("[", "(").replace("]", ")");
                are.add(m.getReturnType() + " " + m.getName() + types);
                names.add(m.getName());
                check.holds(m.getName() + " is not static", !Modifier.isStatic(m.getModifiers()));
            } else {
                check.holds(m.getName() + " is private", isSynthetic(m) || Modifier.isPrivate(m.getModifiers()));
            }
        }
        check.holds("the public methods " + are, are.equals(due));
        for (Class<?> c : allClasses()) {
            for (Method m : c.getDeclaredMethods()) {
                boolean isFace = c == RetryStorm.class && Modifier.isPublic(m.getModifiers());
                check.holds(m.getName() + " is no public name", isFace || !names.contains(m.getName()));
            }
        }
        Constructor<?>[] constructors = RetryStorm.class.getDeclaredConstructors();
        check.due("constructors", constructors.length, 1);
        check.holds("it is public, without parameters", Modifier.isPublic(constructors[0].getModifiers())
            && constructors[0].getParameterCount() == 0);
        Set<String> constants = new TreeSet<>();
        for (Field f : RetryStorm.class.getDeclaredFields()) {
            if (!Modifier.isPrivate(f.getModifiers())) {
                constants.add(Modifier.toString(f.getModifiers()) + " " + f.getType() + " " + f.getName());
            }
        }
        check.holds("the constants " + constants, constants.equals(new TreeSet<>(Arrays.asList(
            "public static final int BAD", "public static final int STATE", "public static final int NONE"))));
    }

    private static List<Class<?>> allClasses() {
        List<Class<?>> all = new ArrayList<>();
        all.add(RetryStorm.class);
        Collections.addAll(all, RetryStorm.class.getDeclaredClasses());
        return all;
    }

    private static void classes() {
        check.part("rules 2, 5 and 11");
        check.holds("at most 12 classes", allClasses().size() <= 12);
        for (Class<?> c : allClasses()) {
            int fields = 0;
            for (Field f : c.getDeclaredFields()) {
                boolean isStatic = Modifier.isStatic(f.getModifiers());
                fields += isStatic ? 0 : 1;
                check.holds(f + " is final if static", f.isSynthetic() || !isStatic || Modifier.isFinal(f.getModifiers()));
            }
            check.holds(c + " has at most 20 fields", fields <= 20);
            for (Method m : c.getDeclaredMethods()) {
                check.holds(m + " has at most 7 parameters", m.getParameterCount() <= 7);
            }
            if (c != RetryStorm.class) {
                check.holds(c + " is static", Modifier.isStatic(c.getModifiers()));
                check.holds(c + " is not public", !Modifier.isPublic(c.getModifiers()));
                check.due("classes in " + c, c.getDeclaredClasses().length, 0);
            }
        }
    }

    private static String strip(String text) {
        return text.replaceAll("(?s)/\\*.*?\\*/", "").replaceAll("//[^\n]*", "");
    }

    private static void text(String text) {
        check.part("rules 3, 4, 6, 10 and 13");
        check.holds("its signs are 1 to 127", text.chars().allMatch(c -> c >= 1 && c <= 127));
        String code = strip(text);
        for (String word : FORBIDDEN) {
            check.holds("no " + word, !Pattern.compile("\\b" + word + "\\b").matcher(code).find());
        }
        check.holds("no arrow, no method reference", !code.contains("->") && !code.contains("::"));
        check.holds("no text", !code.contains("\""));
        Set<String> library = new TreeSet<>();
        Matcher m = Pattern.compile("\\b(Math|System|Arrays|Integer|Long|String|StringBuilder|Objects)\\.(\\w+)").matcher(code);
        while (m.find()) {
            library.add(m.group());
        }
        library.removeAll(Set.of("Math.max", "Math.min", "Math.floorMod", "System.arraycopy", "Arrays.fill"));
        check.holds("no other library " + library, library.isEmpty());
        Matcher imports = Pattern.compile("import ([\\w.*]+);").matcher(code);
        while (imports.find()) {
            check.holds("import of " + imports.group(1), imports.group(1).equals("java.util.Arrays"));
        }
    }

    /** Finds each method by its braces: how long it is, and how deep its calls go by their names. */
    private static void methods(String code) {
        check.part("rules 8, 11 and 12");
        String words = code.replaceAll("new \\w+\\[[^;]*;", ";");
        Matcher m = Pattern.compile("(?m)^ {4,8}(?:[\\w\\[\\]]+ )*(\\w+)\\(([^)]*)\\) \\{$").matcher(words);
        Map<String, Set<String>> calls = new HashMap<>();
        while (m.find()) {
            int end = end(words, m.end());
            String body = words.substring(m.end(), end);
            check.holds(m.group(1) + " is at most 60 lines long", body.split("\n").length <= 60);
            Set<String> called = calls.computeIfAbsent(m.group(1), k -> new TreeSet<>());
            Matcher c = Pattern.compile("(\\w+\\.)?\\b(\\w+)\\(").matcher(body);
            while (c.find()) {
                boolean isLibrary = c.group(1) != null && Set.of("Math.", "System.", "Arrays.").contains(c.group(1));
                if (!isLibrary) {
                    called.add(c.group(2));
                }
            }
            boolean isConstructor = Character.isUpperCase(m.group(1).charAt(0));
            check.holds(m.group(1) + " makes no object", isConstructor || !body.contains("new "));
        }
        check.holds("methods were found", calls.size() > 50);
        for (String name : calls.keySet()) {
            // copyFrom of a State calls copyFrom of its Tables: the only name that stands in two classes.
            check.holds(name + " calls at most 8 deep", depth(name, calls, 1) <= 8);
        }
    }

    private static int end(String text, int from) {
        int open = 1;
        int at = from;
        while (open > 0) {
            open += text.charAt(at) == '{' ? 1 : text.charAt(at) == '}' ? -1 : 0;
            at++;
        }
        return at;
    }

    private static int depth(String name, Map<String, Set<String>> calls, int level) {
        int most = level;
        for (String callee : level > 12 ? Set.<String>of() : calls.getOrDefault(name, Set.of())) {
            if (calls.containsKey(callee)) {
                most = Math.max(most, callee.equals(name) ? level + 1 : depth(callee, calls, level + 1));
            }
        }
        return most;
    }
}
