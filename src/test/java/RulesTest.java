import java.io.IOException;
import java.lang.reflect.Constructor;
import java.lang.reflect.Field;
import java.lang.reflect.Method;
import java.lang.reflect.Modifier;
import java.nio.file.Files;
import java.nio.file.Path;
import java.util.Map;
import java.util.Set;
import java.util.TreeMap;
import java.util.TreeSet;
import java.util.regex.Matcher;
import java.util.regex.Pattern;

/** The rules of LANGUAGE.md that can be seen from the source and the class. */
public final class RulesTest {
    private static final Due due = new Due("RulesTest");
    private static final String METHOD = " {4,8}[\\w\\[\\] ]*?(\\w+)\\([\\w\\[\\], ]*\\) \\{";
    private static final Set<String> FACE = Set.of(
        "act(int,int,int)int", "way(int,int,int,int)int", "token(int,int,int)int",
        "clear(int)boolean", "run(int,int)int", "ticks(int)int", "about(int)int",
        "end(int,int)int", "fired(int)int", "cell(int,int,int)int", "told(int,int)int",
        "beside(int,int,int)int");

    public static void main(String[] args) throws IOException {
        String source = Files.readString(Path.of("src/main/java/TokenFloor.java"));
        String code = source.replaceAll("(?s)/\\*.*?\\*/", "").replaceAll("//.*", "");
        face();
        classesInside();
        forbidden(code);
        sizes(code);
        depth(code);
        due.close();
    }

    private static void face() {
        Set<String> found = new TreeSet<>();
        Set<String> names = new TreeSet<>();
        for (Method m : TokenFloor.class.getDeclaredMethods()) {
            if (Modifier.isPublic(m.getModifiers())) {
                found.add(signature(m));
                names.add(m.getName());
            }
        }
        due.holds("the public methods are the face: " + found, found.equals(FACE));
        for (Method m : TokenFloor.class.getDeclaredMethods()) {
            boolean open = Modifier.isPublic(m.getModifiers());
            due.holds(m + " is public or private", open || Modifier.isPrivate(m.getModifiers()));
            due.holds(m + " bears no public name", open || !names.contains(m.getName()));
        }
        Constructor<?>[] constructors = TokenFloor.class.getDeclaredConstructors();
        due.same("constructors", constructors.length, 1);
        due.holds("it is public", Modifier.isPublic(constructors[0].getModifiers()));
        for (Field f : TokenFloor.class.getDeclaredFields()) {
            boolean isNone = f.getName().equals("NONE");
            due.same(f + " is public", Modifier.isPublic(f.getModifiers()) ? 1 : 0, isNone ? 1 : 0);
            due.holds(f + " is private", isNone || Modifier.isPrivate(f.getModifiers()));
        }
        due.holds("final", Modifier.isFinal(TokenFloor.class.getModifiers()));
        due.same("NONE", TokenFloor.NONE, -1);
    }

    private static String signature(Method m) {
        StringBuilder text = new StringBuilder(m.getName()).append('(');
        for (Class<?> c : m.getParameterTypes()) {
            text.append(text.charAt(text.length() - 1) == '(' ? "" : ",").append(c.getName());
        }
        return text.append(')').append(m.getReturnType().getName()).toString();
    }

    private static void classesInside() {
        Class<?>[] inside = TokenFloor.class.getDeclaredClasses();
        due.holds("at most twelve classes", inside.length + 1 <= 12);
        for (Class<?> c : inside) {
            due.holds(c + " is static", Modifier.isStatic(c.getModifiers()));
            due.holds(c + " is not public", !Modifier.isPublic(c.getModifiers()));
            int fields = 0;
            for (Field f : c.getDeclaredFields()) {
                boolean isStatic = Modifier.isStatic(f.getModifiers());
                due.holds(f + " is final", !isStatic || Modifier.isFinal(f.getModifiers()));
                fields += isStatic ? 0 : 1;
            }
            due.holds(c + " has at most twenty fields", fields <= 20);
            for (Method m : c.getDeclaredMethods()) {
                due.holds(m + " has at most seven parameters", m.getParameterCount() <= 7);
                boolean ofFace = FACE.stream().anyMatch(f -> f.startsWith(m.getName() + "("));
                due.holds(m + " bears no public name", !ofFace);
            }
        }
    }

    private static void forbidden(String code) {
        String[] words = {"throw", "throws", "try", "catch", "finally", "synchronized", "assert",
            "instanceof", "System\\.out", "Random", "Thread", "hashCode", "toString", "nanoTime",
            "currentTimeMillis", "\\w+Exact", "package", "protected", "static\\s*\\{"};
        for (String word : words) {
            boolean found = Pattern.compile("(?<!\\w)" + word + "(?!\\w)").matcher(code).find();
            due.holds("no " + word, !found);
        }
        due.holds("no lambda and no arrow", !code.contains("->"));
        due.holds("no method reference", !code.contains("::"));
        Matcher imports = Pattern.compile("import ([\\w.]+);").matcher(code);
        while (imports.find()) {
            due.holds("import " + imports.group(1), imports.group(1).equals("java.util.Arrays"));
        }
        Matcher library = Pattern.compile("(Arrays|Math|System|Integer|Long)\\.(\\w+)").matcher(code);
        Set<String> allowed = Set.of("Arrays.fill", "Math.max", "System.arraycopy");
        while (library.find()) {
            due.holds(library.group(), allowed.contains(library.group()));
        }
    }

    private static void sizes(String code) {
        int start = -1;
        String[] lines = code.split("\n");
        for (int i = 0; i < lines.length; i++) {
            if (lines[i].matches(METHOD)) {
                start = i;
            }
            if (start >= 0 && lines[i].matches(" {4,8}\\}")) {
                due.holds("at most sixty lines: " + lines[start], i - start < 60);
                start = -1;
            }
        }
    }

    /** Methods of one name count as one here, so a depth is told that is never too low. */
    private static void depth(String code) {
        Map<String, Set<String>> calls = new TreeMap<>();
        String name = "";
        for (String line : code.split("\n")) {
            Matcher head = Pattern.compile(METHOD).matcher(line);
            if (head.matches()) {
                name = head.group(1);
                calls.putIfAbsent(name, new TreeSet<>());
            } else if (!name.isEmpty()) {
                Matcher call = Pattern.compile("(\\w+)\\(").matcher(line);
                while (call.find()) {
                    calls.get(name).add(call.group(1));
                }
            }
        }
        due.holds("methods were found", calls.size() > 60);
        for (String start : calls.keySet()) {
            int deep = deepest(calls, start, 1);
            due.holds(start + " goes eight deep at most, not " + deep, deep <= 8);
        }
    }

    private static int deepest(Map<String, Set<String>> calls, String name, int level) {
        int deepest = level;
        // Behind this level it must be recursion.
        if (level < 50) {
            for (String next : calls.get(name)) {
                if (calls.containsKey(next)) {
                    deepest = Math.max(deepest, deepest(calls, next, level + 1));
                }
            }
        }
        return deepest;
    }
}
