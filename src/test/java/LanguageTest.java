import java.lang.reflect.Constructor;
import java.lang.reflect.Field;
import java.lang.reflect.Method;
import java.lang.reflect.Modifier;
import java.io.IOException;
import java.nio.file.Files;
import java.nio.file.Path;
import java.util.HashSet;
import java.util.List;
import java.util.Map;
import java.util.Set;
import java.util.TreeMap;
import java.util.TreeSet;
import java.util.regex.Pattern;

/** Those rules of LANGUAGE.md that can be seen in the source's words and in the class that comes of it. */
public final class LanguageTest {
    private static final Path SOURCE = Path.of("src/main/java/RunWatch.java");
    private static final int MOST_LINES = 60;
    private static final int MOST_CLASSES = 12;
    private static final int MOST_FIELDS = 20;
    private static final int MOST_PARAMETERS = 7;
    private static final int DEEPEST = 8;
    /** Of the library: what RunWatch uses of all that LANGUAGE.md lists. */
    private static final Set<String> LIBRARY = Set.of("java.lang.Object.<init>", "java.lang.String.length",
        "java.lang.String.charAt", "java.lang.Integer.bitCount", "java.lang.Math.min", "java.lang.Math.max",
        "java.lang.Math.floorMod", "java.lang.System.arraycopy", "java.util.Arrays.fill");
    private static final List<String> FORBIDDEN = List.of("\\bthrow\\b", "\\btry\\b", "\\bcatch\\b", "\\bsynchronized\\b",
        "\\bassert\\b", "->", "::", "\\bpackage\\b", "\\bprotected\\b", "\\w+Exact\\b", "\\bObject\\b", "\\bvar\\b",
        "static *\\{", "\\bhashCode\\b", "\\btoString\\b", "System\\.(?!arraycopy\\b)\\w+", "Thread", "Random");
    private static final Set<String> FACE = new TreeSet<>(List.of(
        "type(int)", "clear()", "tells()", "comes(int,int)", "goes(int)", "becomes(int,int)", "undo()",
        "rule(int,int)", "chance(int)", "row(int,int)", "alarm(int)", "signal(int)", "step(int,int)",
        "soonest(int)", "odds(int,int)", "mean()", "same(int)", "keep(int)", "back(int)", "count(int)"));
    private static final Set<String> CONSTANTS = new TreeSet<>(List.of(
        "BAD=-1", "STATE=-2", "FULL=-3", "ALARM=-5", "NONE=-9"));
    private static int wrong = 0;

    public static void main(String[] args) throws IOException, IllegalAccessException {
        words();
        methodLengths();
        face();
        classesInside();
        calls();
        System.out.println(wrong == 0 ? "the source keeps to the language" : wrong + " rules are broken");
        if (wrong != 0) {
            System.exit(1);
        }
    }

    private static void words() throws IOException {
        String code = Files.readString(SOURCE).replaceAll("/\\*[\\s\\S]*?\\*/", "").replaceAll("//.*", "");
        for (String word : FORBIDDEN) {
            expect(!Pattern.compile(word).matcher(code).find(), "the source has " + word);
        }
        for (String line : code.split("\n")) {
            boolean allowed = line.equals("import java.util.Arrays;");
            expect(!line.startsWith("import") || allowed, "not of the library: " + line);
        }
    }

    /** By indentation: a method's body ends where a brace stands as far left as its head. */
    private static void methodLengths() throws IOException {
        List<String> lines = Files.readAllLines(SOURCE);
        for (int i = 0; i < lines.size(); i++) {
            String line = lines.get(i);
            if (!line.matches("( {4}| {8})[\\w\\[\\]<> ]+\\([^;]*\\) \\{")) {
                continue;
            }
            String end = line.replaceAll("\\S.*", "") + "}";
            int to = i;
            while (to < lines.size() && !lines.get(to).equals(end)) {
                to++;
            }
            expect(to - i < MOST_LINES, "a long method: " + line);
        }
    }

    private static void face() throws IllegalAccessException {
        Set<String> methods = new TreeSet<>();
        Set<String> names = new TreeSet<>();
        for (Method method : RunWatch.class.getDeclaredMethods()) {
            if (Modifier.isPrivate(method.getModifiers())) {
                continue;
            }
            expect(Modifier.isPublic(method.getModifiers()) && method.getReturnType() == int.class, "face: " + method);
            String all = method.toString();
            methods.add(method.getName() + all.substring(all.indexOf('(')));
            names.add(method.getName());
        }
        expect(methods.equals(FACE), "the face is " + methods);
        for (Method method : RunWatch.class.getDeclaredMethods()) {
            boolean hidden = Modifier.isPrivate(method.getModifiers());
            expect(!hidden || !names.contains(method.getName()), "a private method has a public name: " + method);
        }
        Set<String> constants = new TreeSet<>();
        for (Field field : RunWatch.class.getDeclaredFields()) {
            if (!Modifier.isPrivate(field.getModifiers())) {
                constants.add(field.getName() + "=" + field.getInt(null));
            }
        }
        expect(constants.equals(CONSTANTS), "the constants are " + constants);
        Constructor<?>[] makers = RunWatch.class.getDeclaredConstructors();
        expect(makers.length == 1 && makers[0].getParameterCount() == 0, "one constructor without parameters");
        expect(Modifier.isFinal(RunWatch.class.getModifiers()), "the class is final");
    }

    private static void classesInside() {
        Class<?>[] inside = RunWatch.class.getDeclaredClasses();
        expect(inside.length + 1 <= MOST_CLASSES, "too many classes");
        fieldsAndParameters(RunWatch.class);
        for (Class<?> each : inside) {
            expect(Modifier.isStatic(each.getModifiers()), "not static: " + each);
            fieldsAndParameters(each);
        }
    }

    private static void fieldsAndParameters(Class<?> each) {
        int fields = 0;
        for (Field field : each.getDeclaredFields()) {
            boolean shared = Modifier.isStatic(field.getModifiers());
            fields += shared ? 0 : 1;
            expect(!shared || Modifier.isFinal(field.getModifiers()), "a static field that is not final: " + field);
        }
        expect(fields <= MOST_FIELDS, "too many fields: " + each);
        for (Method method : each.getDeclaredMethods()) {
            expect(method.getParameterCount() <= MOST_PARAMETERS, "too many parameters: " + method);
        }
    }

    private static void calls() throws IOException {
        Map<String, Set<String>> all = new TreeMap<>();
        Set<Class<?>> classes = new HashSet<>(List.of(RunWatch.class.getDeclaredClasses()));
        classes.add(RunWatch.class);
        for (Class<?> each : classes) {
            ClassCalls read = new ClassCalls(each);
            all.putAll(read.calls);
            for (String owner : read.fieldOwners) {
                expect(isOwn(owner), "a field of the library: " + owner);
            }
        }
        for (Set<String> called : all.values()) {
            for (String method : called) {
                boolean allowed = isOwn(method) || LIBRARY.contains(method.substring(0, Math.max(0, method.indexOf('('))));
                expect(allowed, "not of the library: " + method);
            }
        }
        expect(all.size() > FACE.size(), "the calls of all classes are looked at");
        for (String method : all.keySet()) {
            int depth = depth(all, method, 1);
            expect(depth <= DEEPEST, method + " goes " + depth + " calls deep");
        }
    }

    private static boolean isOwn(String name) {
        return name.matches("RunWatch[.$].*|RunWatch");
    }

    /** A method that comes back to itself goes too deep as well. */
    private static int depth(Map<String, Set<String>> all, String method, int now) {
        int deepest = now;
        if (now <= DEEPEST) {
            for (String called : all.get(method)) {
                if (all.containsKey(called)) {
                    deepest = Math.max(deepest, depth(all, called, now + 1));
                }
            }
        }
        return deepest;
    }

    private static void expect(boolean holds, String what) {
        if (!holds) {
            wrong++;
            System.out.println(what);
        }
    }
}
