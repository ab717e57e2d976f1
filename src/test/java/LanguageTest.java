import java.lang.reflect.Constructor;
import java.lang.reflect.Field;
import java.lang.reflect.Method;
import java.lang.reflect.Modifier;
import java.nio.file.Files;
import java.nio.file.Path;
import java.util.ArrayList;
import java.util.List;
import java.util.Set;
import java.util.TreeSet;
import java.util.regex.Matcher;
import java.util.regex.Pattern;

/** The public face, and what of LANGUAGE.md can be seen from the class and its source. */
public final class LanguageTest {
    private static final List<String> METHODS = List.of("int rake()",
            "int iron(int,int,int,int,int,int,boolean)", "int knock(int,int,int)", "int off(int)", "int told(int,int)",
            "int nearer(int,int,int)", "int count(int)", "int feed(int,long)", "int rule(int)", "int fault()",
            "int says(int,int)", "int score(int,int)", "int measure(int,int,int,int)", "int known(int,int)",
            "int sure(int,int)", "int act(int,int,int,int,int,int,int)", "long win(int,int,int,int,int)",
            "int match(int,int,int)", "int end(int,int)", "int mend(int,int,int)", "int dusk(int)",
            "int about(int,int)", "int standing(int,int)", "int order()", "int reach(int,int)");
    private static final Set<String> FIELDS = Set.of("NONE", "UNKNOWN", "OUTSIDE", "NOT", "FULL", "LARGE");

    public static void main(String[] args) throws Exception {
        face();
        nestedClasses();
        source(withoutComments(Files.readString(Path.of("src/main/java/QuoitBook.java"))));
        Due.finish();
    }

    private static void hold(String what, boolean holds) {
        Due.due(what, holds ? 1 : 0, 1);
    }

    private static void face() {
        Class<?> c = QuoitBook.class;
        hold("public and final", Modifier.isPublic(c.getModifiers()) && Modifier.isFinal(c.getModifiers()));
        Set<String> found = new TreeSet<>();
        Set<String> names = new TreeSet<>();
        for (Method m : c.getDeclaredMethods()) {
            if (Modifier.isPrivate(m.getModifiers())) {
                continue;
            }
            hold("public, not static: " + m, m.getModifiers() == Modifier.PUBLIC);
            List<String> types = new ArrayList<>();
            for (Class<?> t : m.getParameterTypes()) {
                types.add(t.getName());
            }
            found.add(m.getReturnType().getName() + " " + m.getName() + "(" + String.join(",", types) + ")");
            names.add(m.getName());
        }
        hold("the methods of the document and no other", found.equals(new TreeSet<>(METHODS)));
        for (Method m : c.getDeclaredMethods()) {
            hold("no private method with a public name: " + m,
                    !Modifier.isPrivate(m.getModifiers()) || !names.contains(m.getName()));
        }
        for (Class<?> inner : c.getDeclaredClasses()) {
            for (Method m : inner.getDeclaredMethods()) {
                hold("no method of a class inside with a public name: " + m, !names.contains(m.getName()));
            }
        }
        for (Field f : c.getDeclaredFields()) {
            hold("private or of the document: " + f,
                    Modifier.isPrivate(f.getModifiers()) || FIELDS.contains(f.getName()));
        }
        Constructor<?>[] all = c.getDeclaredConstructors();
        hold("one public constructor", all.length == 1 && Modifier.isPublic(all[0].getModifiers())
                && all[0].getParameterCount() == 0);
    }

    private static void nestedClasses() {
        Class<?>[] inside = QuoitBook.class.getDeclaredClasses();
        hold("some twelve classes", inside.length <= 11);
        for (Class<?> c : inside) {
            hold("static: " + c, Modifier.isStatic(c.getModifiers()) && !Modifier.isPublic(c.getModifiers()));
            int fields = 0;
            for (Field f : c.getDeclaredFields()) {
                boolean isStatic = Modifier.isStatic(f.getModifiers());
                hold("static and final: " + f, !isStatic || Modifier.isFinal(f.getModifiers()));
                fields += isStatic ? 0 : 1;
            }
            hold("some twenty fields: " + c, fields <= 20);
            for (Method m : c.getDeclaredMethods()) {
                hold("seven parameters: " + m, m.getParameterCount() <= 7);
            }
        }
    }

    private static String withoutComments(String source) {
        return source.replaceAll("(?s)/\\*.*?\\*/", " ").replaceAll("//[^\n]*", " ");
    }

    private static void source(String source) {
        String[] banned = {"\\bthrow\\b", "\\bthrows\\b", "\\btry\\b", "\\bcatch\\b", "\\bsynchronized\\b", "\\bassert\\b",
            "->", "::", "\\bimport\\b", "\\bpackage\\b", "\\bprotected\\b", "Exact\\b", "Math\\.sqrt", "\\bdouble\\b",
            "\\bfloat\\b", "\\bstatic\\s*\\{", "\\bSystem\\.(?!arraycopy)", "\\bThread\\b", "\\bRandom\\b", "\\bvar\\b"};
        for (String b : banned) {
            hold("without " + b, !Pattern.compile(b).matcher(source).find());
        }
        hold("no sign beyond 126", source.chars().allMatch(s -> s < 127));
        Matcher whole = Pattern.compile("\\bwhile \\((.*)\\) \\{").matcher(source);
        while (whole.find()) {
            hold("a while against a bound: " + whole.group(1), whole.group(1).contains(" < "));
        }
        longMethods(source);
    }

    private static void longMethods(String source) {
        int length = 0;
        for (String line : source.split("\n")) {
            length = line.matches(" {4}(private |public |).*\\(.*\\) \\{") || line.matches(" {8}\\w.*\\) \\{") ? 0 : length + 1;
            hold("a method of some sixty lines: " + line, length <= 60);
        }
    }
}
