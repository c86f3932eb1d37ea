import java.lang.reflect.Constructor;
import java.lang.reflect.Field;
import java.lang.reflect.Method;
import java.lang.reflect.Modifier;
import java.nio.file.Files;
import java.nio.file.Path;
import java.util.ArrayList;
import java.util.HashMap;
import java.util.HashSet;
import java.util.List;
import java.util.Map;
import java.util.Set;
import java.util.TreeMap;
import java.util.TreeSet;
import java.util.regex.Matcher;
import java.util.regex.Pattern;

/** Holds the source against those rules of LANGUAGE.md that a reader of lines can see; the argument is the project's folder. */
public final class LanguageTest {
    private static final String[] FACE = {"feed 5", "text 1", "fault 1", "named 2", "look 2", "law 2", "begin 1", "way 2",
        "entry 2", "spread 1", "lag 1", "verdict 1", "guilty 2", "take 2", "seat 3", "undo 0", "sound 4", "together 4",
        "where 3", "shift 3", "moved 5", "far 4", "ends 3", "goes 5", "by 1", "film 3", "strike 1", "known 1", "fits 2",
        "next 3", "order 5", "pause 2", "two 3", "clear 1", "draws 4", "count 1"};
    private static final String[] FORBIDDEN = {"->", "::", "\\bfinally\\b", "\\bassert\\b", "\\bsynchronized\\b", "\\bcatch\\b",
        "\\btry\\b", "\\bdouble\\b", "\\bfloat\\b", "Exact\\(", "\\bSystem\\.(?!arraycopy)", "\\bRandom\\b", "\\bThread\\b",
        "\\bObject\\b", "\\bvar\\b", "\\binstanceof\\b", "\\bprotected\\b", "static \\{", "\"\\s*\\+|\\+\\s*\"",
        "\\bMath\\.(?!max|min|abs|floorDiv|floorMod)", "\\bimport (?!java\\.util\\.NoSuchElementException;)"};
    private static final Due due = new Due();

    public static void main(String[] args) throws Exception {
        Path root = Path.of(args.length > 0 ? args[0] : ".");
        String source = Files.readString(root.resolve("src/main/java/StickStrings.java"));
        face();
        String bare = bare(source);
        for (String rule : FORBIDDEN) {
            Matcher matcher = Pattern.compile(rule).matcher(bare);
            if (matcher.find()) {
                due.fail("rule: " + rule + " near line " + line(bare, matcher.start()));
            }
        }
        for (int i = 0; i < source.length(); i++) {
            if (source.charAt(i) > 126) {
                due.fail("a sign above 126 in line " + line(source, i));
            }
        }
        classes();
        methods(bare);
        due.end();
    }

    private static void face() {
        Class<?> face = StickStrings.class;
        due.is("public final", face.getModifiers() & ~Modifier.SYNCHRONIZED, Modifier.PUBLIC | Modifier.FINAL);
        Set<String> want = new TreeSet<>(List.of(FACE));
        Set<String> found = new TreeSet<>();
        Set<String> names = new HashSet<>();
        for (String name : FACE) {
            names.add(name.split(" ")[0]);
        }
        for (Method method : face.getDeclaredMethods()) {
            if (Modifier.isPublic(method.getModifiers())) {
                found.add(method.getName() + " " + method.getParameterCount());
            } else {
                due.is("private " + method, Modifier.isPrivate(method.getModifiers()), true);
                due.is("no name of the face: " + method, names.contains(method.getName()), false);
            }
        }
        due.is("the face is " + found, found.equals(want), true);
        for (Constructor<?> constructor : face.getDeclaredConstructors()) {
            due.is("constructor", constructor.getParameterCount(), 0);
        }
        for (Field field : face.getDeclaredFields()) {
            boolean isNone = field.getName().equals("NONE");
            due.is("field " + field, Modifier.isPublic(field.getModifiers()), isNone);
            due.is("private or NONE: " + field, isNone || Modifier.isPrivate(field.getModifiers()), true);
        }
    }

    private static void classes() {
        List<Class<?>> all = new ArrayList<>(List.of(StickStrings.class.getDeclaredClasses()));
        all.add(StickStrings.class);
        due.is("classes " + all.size(), all.size() <= 12, true);
        Set<String> face = new HashSet<>();
        for (String name : FACE) {
            face.add(name.split(" ")[0]);
        }
        for (Class<?> one : all) {
            int fields = 0;
            for (Field field : one.getDeclaredFields()) {
                if (Modifier.isStatic(field.getModifiers())) {
                    due.is("static and final: " + field, Modifier.isFinal(field.getModifiers()), true);
                } else {
                    fields++;
                }
            }
            due.is("fields of " + one + " " + fields, fields <= 20, true);
            for (Method method : one.getDeclaredMethods()) {
                due.is("parameters of " + method, method.getParameterCount() <= 7, true);
                due.is("name of " + method, one != StickStrings.class && face.contains(method.getName()), false);
            }
        }
    }

    /** Methods are short, none calls itself, and calls go at most eight deep: by names, so rather too deep than not. */
    private static void methods(String bare) {
        Pattern head = Pattern.compile("(?m)^ {4,8}(?:public |private )?(?:static )?(?:int|long|boolean|void)(?:\\[\\])? (\\w+)\\([^)]*\\)[^{;]*\\{$");
        Map<String, Set<String>> calls = new HashMap<>();
        Map<String, String> bodies = new TreeMap<>();
        Matcher matcher = head.matcher(bare);
        while (matcher.find()) {
            int end = matcher.end();
            for (int depth = 1; depth > 0; end++) {
                depth += bare.charAt(end) == '{' ? 1 : bare.charAt(end) == '}' ? -1 : 0;
            }
            String body = bare.substring(matcher.end(), end);
            int lines = body.split("\n", -1).length;
            due.is("lines of " + matcher.group(1) + ": " + lines, lines <= 60, true);
            bodies.merge(matcher.group(1), body, String::concat);
        }
        due.is("methods found", bodies.size() > 80, true);
        for (Map.Entry<String, String> method : bodies.entrySet()) {
            Set<String> called = new HashSet<>();
            Matcher call = Pattern.compile("(\\w+)\\(").matcher(method.getValue());
            while (call.find()) {
                if (bodies.containsKey(call.group(1))) {
                    called.add(call.group(1));
                }
            }
            calls.put(method.getKey(), called);
        }
        for (String method : bodies.keySet()) {
            int deep = depth(method, calls, 0);
            due.is("calls below " + method + ": " + deep, deep <= 8, true);
        }
    }

    private static int depth(String method, Map<String, Set<String>> calls, int above) {
        int deepest = 0;
        if (above > 20) {
            return 99;
        }
        for (String called : calls.get(method)) {
            deepest = Math.max(deepest, depth(called, calls, above + 1));
        }
        return deepest + 1;
    }

    /** The source without comments and without what stands in texts. */
    private static String bare(String source) {
        String bare = source.replaceAll("(?s)/\\*.*?\\*/", "").replaceAll("//[^\n]*", "");
        return bare.replaceAll("\"[^\"\n]*\"", "\"\"");
    }

    private static int line(String source, int at) {
        return source.substring(0, at).split("\n", -1).length;
    }
}
