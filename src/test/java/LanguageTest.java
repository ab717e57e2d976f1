import java.lang.reflect.Constructor;
import java.lang.reflect.Field;
import java.lang.reflect.Method;
import java.lang.reflect.Modifier;
import java.nio.file.Files;
import java.nio.file.Path;
import java.util.ArrayList;
import java.util.List;
import java.util.Map;
import java.util.Set;
import java.util.TreeMap;
import java.util.TreeSet;
import java.util.regex.Matcher;
import java.util.regex.Pattern;

/** The public face, and what of LANGUAGE.md can be seen from the class and its source. */
public final class LanguageTest {
    private static final List<String> METHODS = List.of("int rake()",
            "int iron(int,int,int,int,int,int,boolean)", "int knock(int,int,int)", "int off(int)", "int told(int,int)",
            "int nearer(int,int,int)", "int count(int)", "int feed(int,long)", "int rule(int)", "int fault()",
            "int says(int,int)", "int score(int,int)", "int measure(int,int,int,int)", "int known(int,int)",
            "int sure(int,int)", "int act(int,int,int,int,int,int,int)", "long win(int,int,int,int,int)",
            "int match(int,int,int)", "int end(int,int)", "int mend(int,int,int)", "int dusk(int)",
            "int about(int,int)", "int standing(int,int)", "int order()", "int reach(int,int)");
    private static final Set<String> FIELDS = Set.of("NONE", "UNKNOWN", "OUTSIDE", "NOT", "FULL", "LARGE");

    public static void main(String[] args) throws Exception {
        face();
        nestedClasses();
        source(withoutComments(Files.readString(Path.of("src/main/java/QuoitBook.java"))));
        Due.finish();
    }

    private static void hold(String what, boolean holds) {
        Due.due(what, holds ? 1 : 0, 1);
    }

    private static void face() {
        Class<?> c = QuoitBook.class;
        hold("public and final", Modifier.isPublic(c.getModifiers()) && Modifier.isFinal(c.getModifiers()));
        Set<String> found = new TreeSet<>();
        Set<String> names = new TreeSet<>();
        for (Method m : c.getDeclaredMethods()) {
            if (Modifier.isPrivate(m.getModifiers())) {
                continue;
            }
            hold("public, not static: " + m, m.getModifiers() == Modifier.PUBLIC);
            List<String> types = new ArrayList<>();
            for (Class<?> t : m.getParameterTypes()) {
                types.add(t.getName());
            }
            found.add(m.getReturnType().getName() + " " + m.getName() + "(" + String.join(",", types) + ")");
            names.add(m.getName());
        }
        hold("the methods of the document and no other", found.equals(new TreeSet<>(METHODS)));
        for (Method m : c.getDeclaredMethods()) {
            hold("no private method with a public name: " + m,
                    !Modifier.isPrivate(m.getModifiers()) || !names.contains(m.getName()));
        }
        for (Class<?> inner : c.getDeclaredClasses()) {
            for (Method m : inner.getDeclaredMethods()) {
                hold("no method of a class inside with a public name: " + m, !names.contains(m.getName()));
            }
        }
        for (Field f : c.getDeclaredFields()) {
            hold("private or of the document: " + f,
                    Modifier.isPrivate(f.getModifiers()) || FIELDS.contains(f.getName()));
        }
        Constructor<?>[] all = c.getDeclaredConstructors();
        hold("one public constructor", all.length == 1 && Modifier.isPublic(all[0].getModifiers())
                && all[0].getParameterCount() == 0);
    }

    private static void nestedClasses() {
        Class<?>[] inside = QuoitBook.class.getDeclaredClasses();
        hold("some twelve classes", inside.length <= 11);
        for (Class<?> c : inside) {
            hold("static: " + c, Modifier.isStatic(c.getModifiers()) && !Modifier.isPublic(c.getModifiers()));
            int fields = 0;
            for (Field f : c.getDeclaredFields()) {
                boolean isStatic = Modifier.isStatic(f.getModifiers());
                hold("static and final: " + f, !isStatic || Modifier.isFinal(f.getModifiers()));
                fields += isStatic ? 0 : 1;
            }
            hold("some twenty fields: " + c, fields <= 20);
            for (Method m : c.getDeclaredMethods()) {
                hold("seven parameters: " + m, m.getParameterCount() <= 7);
            }
        }
    }

    private static String withoutComments(String source) {
        return source.replaceAll("(?s)/\\*.*?\\*/", " ").replaceAll("//[^\n]*", " ");
    }

    private static void source(String source) {
        String[] banned = {"\\bthrow\\b", "\\bthrows\\b", "\\btry\\b", "\\bcatch\\b", "\\bsynchronized\\b", "\\bassert\\b",
            "->", "::", "\\bimport\\b", "\\bpackage\\b", "\\bprotected\\b", "Exact\\b", "Math\\.sqrt", "\\bdouble\\b",
            "\\bfloat\\b", "\\bstatic\\s*\\{", "\\bSystem\\.(?!arraycopy)", "\\bThread\\b", "\\bRandom\\b", "\\bvar\\b"};
        for (String b : banned) {
            hold("without " + b, !Pattern.compile(b).matcher(source).find());
        }
        hold("no sign beyond 126", source.chars().allMatch(s -> s < 127));
        Matcher whole = Pattern.compile("\\bwhile \\((.*)\\) \\{").matcher(source);
        while (whole.find()) {
            hold("a while against a bound: " + whole.group(1), whole.group(1).contains(" < "));
        }
        Matcher counted = Pattern.compile("\\bfor \\((.*)\\) \\{").matcher(source);
        while (counted.find()) {
            hold("a for against a bound: " + counted.group(1), counted.group(1).matches("[^;]*;[^;]*[<>][^;]*;[^;]*"));
        }
        longMethods(source);
        calls(source);
    }

    private static void longMethods(String source) {
        int length = 0;
        for (String line : source.split("\n")) {
            length = line.matches(" {4}(private |public |).*\\(.*\\) \\{") || line.matches(" {8}\\w.*\\) \\{") ? 0 : length + 1;
            hold("a method of some sixty lines: " + line, length <= 60);
        }
    }

    /**
     * Rule 8 lets methods call themselves only if they are private and static; the class does without, and rule 11 lets
     * calls go eight deep. By names alone: methods of one name are taken as one, which can only tell too much.
     */
    private static void calls(String source) {
        Map<String, Set<String>> calls = callsByName(source);
        hold("methods are found: " + calls.keySet(), calls.keySet().containsAll(Set.of("reach", "notePlace", "Iron")));
        for (String name : calls.keySet()) {
            int deep = depth(name, calls, new ArrayList<>());
            hold("no circle of calls, and eight deep at most: " + name + ", " + deep, deep <= 8);
        }
    }

    private static Map<String, Set<String>> callsByName(String source) {
        Pattern head = Pattern.compile(
                " {4}(?: {4})?(?:(?:private|public|static) )*(?:\\w[\\w\\[\\]]* )?(?!if\\b|for\\b|while\\b|switch\\b)(\\w+)\\(.*\\) \\{");
        Pattern call = Pattern.compile("\\b(\\w+)\\(");
        Map<String, Set<String>> calls = new TreeMap<>();
        Set<String> inside = new TreeSet<>();
        for (String line : source.split("\n")) {
            Matcher method = head.matcher(line);
            if (method.matches()) {
                inside = calls.computeIfAbsent(method.group(1), name -> new TreeSet<>());
                continue;
            }
            Matcher called = call.matcher(line);
            while (called.find()) {
                inside.add(called.group(1));
            }
        }
        return calls;
    }

    /** How deep the calls of a method go; far too deep, if it comes to itself again. */
    private static int depth(String name, Map<String, Set<String>> calls, List<String> above) {
        if (above.contains(name)) {
            return 1000;
        }
        above.add(name);
        int deepest = 0;
        for (String called : calls.get(name)) {
            if (calls.containsKey(called)) {
                deepest = Math.max(deepest, 1 + depth(called, calls, above));
            }
        }
        above.remove(above.size() - 1);
        return deepest;
    }
}
