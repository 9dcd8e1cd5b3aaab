import java.io.IOException;
import java.lang.reflect.Constructor;
import java.lang.reflect.Field;
import java.lang.reflect.Method;
import java.lang.reflect.Modifier;
import java.nio.file.Files;
import java.nio.file.Path;
import java.util.ArrayList;
import java.util.Arrays;
import java.util.List;
import java.util.Map;
import java.util.Set;
import java.util.TreeMap;
import java.util.TreeSet;
import java.util.regex.Matcher;
import java.util.regex.Pattern;

/** The document's face, and those rules of LANGUAGE.md that a test can look at (the rules' numbers are named). */
public final class LanguageTest extends Case {
    private static final List<String> FACE = List.of(
        "int add(int, int, int, int, int)", "boolean join(int, int)", "int link(int, int, int, int)", "int deploy()",
        "int message(int, int, int)", "int run(int, int)", "boolean answer(int, int, int, int)",
        "boolean terminate(int)", "int state(int)", "int status(int, int)", "int variable(int, int)",
        "int own(int, int)", "int linkState(int, int)", "int kept(int, int)", "int events(int)",
        "int event(int, int)", "int next(int)");
    private static final String FORBIDDEN =
        "\\b(throw|try|catch|synchronized|assert|package|import|native|volatile|transient|instanceof|var)\\b|->|::|@|\"";

    public static void main(String[] args) throws IOException {
        face();
        for (Class<?> inside : ScopeRunner.class.getDeclaredClasses()) {
            classInside(inside);
        }
        due("rule 11: at most twelve classes", ScopeRunner.class.getDeclaredClasses().length + 1 <= 12, true);
        source(Files.readString(Path.of("src/main/java/ScopeRunner.java")));
        end("LanguageTest");
    }

    private static String signature(Method m) {
        List<String> types = new ArrayList<>();
        for (Class<?> type : m.getParameterTypes()) {
            types.add(type.getName());
        }
        return m.getReturnType().getName() + " " + m.getName() + "(" + String.join(", ", types) + ")";
    }

    private static void face() {
        Class<?> c = ScopeRunner.class;
        due("rule 1: public and final", Modifier.isPublic(c.getModifiers()) && Modifier.isFinal(c.getModifiers()), true);
        Set<String> found = new TreeSet<>();
        for (Method m : c.getDeclaredMethods()) {
            if (Modifier.isPublic(m.getModifiers())) {
                found.add(signature(m));
                due("rule 1: " + m + " is not static", Modifier.isStatic(m.getModifiers()), false);
            } else {
                due("rule 1: " + m + " is private", Modifier.isPrivate(m.getModifiers()), true);
            }
        }
        if (!found.equals(new TreeSet<>(FACE))) {
            fail("rule 1: the face is " + found);
        }
        Constructor<?>[] constructors = c.getDeclaredConstructors();
        due("rule 1: one constructor", constructors.length, 1);
        due("rule 1: without parameters", constructors[0].getParameterCount(), 0);
        due("rule 1: public", Modifier.isPublic(constructors[0].getModifiers()), true);
        for (Field f : c.getDeclaredFields()) {
            due("rule 1: " + f + " is private", Modifier.isPrivate(f.getModifiers()), true);
        }
        fields(c);
    }

    private static void classInside(Class<?> c) {
        due("rule 1: " + c + " is static", Modifier.isStatic(c.getModifiers()), true);
        boolean hidden = !Modifier.isPublic(c.getModifiers()) && !Modifier.isProtected(c.getModifiers());
        due("rule 1: " + c + " is not public", hidden, true);
        for (Method m : c.getDeclaredMethods()) {
            for (String line : FACE) {
                due("rule 1: " + m + " has a public method's name", line.contains(" " + m.getName() + "("), false);
            }
            due("rule 11: parameters of " + m, m.getParameterCount() <= 7, true);
        }
        fields(c);
    }

    private static void fields(Class<?> c) {
        int count = 0;
        for (Field f : c.getDeclaredFields()) {
            boolean isStatic = Modifier.isStatic(f.getModifiers());
            count += isStatic ? 0 : 1;
            due("rule 5: " + f + " is final if it is static", !isStatic || Modifier.isFinal(f.getModifiers()), true);
        }
        due("rule 11: fields of " + c, count <= 20, true);
    }

    private static void source(String text) {
        String code = text.replaceAll("(?s)/\\*.*?\\*/", "").replaceAll("//.*", "");
        Matcher forbidden = Pattern.compile(FORBIDDEN).matcher(code);
        while (forbidden.find()) {
            fail("rules 2, 4 and 6: the source has " + forbidden.group());
        }
        for (char letter : text.toCharArray()) {
            if (letter > 126) {
                fail("rule 3: the source has the character " + (int) letter);
            }
        }
        Matcher made = Pattern.compile("new (\\w+)").matcher(code);
        List<String> known = Arrays.asList("int", "long", "boolean", "Plan", "Rules", "Instance", "Variables", "Links", "Entries", "EventLog");
        while (made.find()) {
            due("rule 3: an object of " + made.group(1), known.contains(made.group(1)), true);
        }
        Map<String, String> bodies = methods(text.split("\n"));
        for (String name : bodies.keySet()) {
            due("rules 8 and 11: calls from " + name + " go at most eight deep", depth(name, bodies, 1) <= 8, true);
            boolean makes = bodies.get(name).contains("new ");
            boolean mayMake = name.equals("message") || Character.isUpperCase(name.charAt(0));
            due("rule 12: " + name + " makes objects", makes && !mayMake, false);
        }
    }

    /** What stands in each method, by its name (methods of one name together, so that no call is missed). */
    private static Map<String, String> methods(String[] lines) {
        Map<String, String> bodies = new TreeMap<>();
        int begin = -1;
        String indent = "";
        for (int i = 0; i < lines.length; i++) {
            String line = lines[i];
            if (line.matches(" +[\\w\\[\\] ]+\\(.*\\) \\{") && !line.matches(" +(if|for|while|switch|\\}).*") && begin < 0) {
                begin = i;
                indent = line.substring(0, line.length() - line.stripLeading().length());
            } else if (begin >= 0 && line.equals(indent + "}")) {
                due("rule 11: lines of" + lines[begin], i - begin + 1 <= 60, true);
                String name = lines[begin].replaceAll("\\(.*", "").replaceAll(".* ", "");
                bodies.merge(name, String.join("\n", Arrays.asList(lines).subList(begin + 1, i)), String::concat);
                begin = -1;
            }
        }
        return bodies;
    }

    private static int depth(String name, Map<String, String> bodies, int level) {
        int deepest = level;
        Matcher call = Pattern.compile("\\b(\\w+)\\(").matcher(bodies.get(name));
        while (call.find() && deepest <= 8) {
            if (bodies.containsKey(call.group(1))) {
                deepest = Math.max(deepest, depth(call.group(1), bodies, level + 1));
            }
        }
        return deepest;
    }
}
