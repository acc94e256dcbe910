import java.io.IOException;
import java.lang.reflect.Method;
import java.lang.reflect.Modifier;
import java.nio.file.DirectoryStream;
import java.nio.file.Files;
import java.nio.file.Path;
import java.util.Set;
import java.util.TreeSet;
import java.util.regex.Matcher;
import java.util.regex.Pattern;

/** README.md: its examples answer as it says, and it tells all calls, kinds and tests. */
public final class ReadmeTest {
    private static final Path DOCUMENT = Path.of("../shared/DOC.md");

    public static void main(String[] args) throws IOException {
        String readme = Files.readString(Path.of("README.md"));
        Sentences all = new Sentences("ReadmeTest");
        all.test("the examples answer as they say", due -> examples(due, readme));
        all.test("each call is told in the document's words", due -> words(due, readme));
        all.test("the table of the kinds", due -> kinds(due, readme));
        Set<String> files = testFiles();
        all.test("each test is named", due -> tests(due, readme, files));
        all.close();
    }

    private static void examples(Due due, String readme) {
        Set<String> used = new TreeSet<>();
        Matcher blocks = Pattern.compile("(?s)```java\n(.*?)```").matcher(readme);
        while (blocks.find()) {
            example(due, blocks.group(1), used);
        }
        due.holds("each call has an example: " + used, used.equals(calls()));
    }

    private static Set<String> calls() {
        Set<String> names = new TreeSet<>();
        for (Method m : TokenFloor.class.getDeclaredMethods()) {
            if (Modifier.isPublic(m.getModifiers())) {
                names.add(m.getName());
            }
        }
        return names;
    }

    private static void example(Due due, String block, Set<String> used) {
        Pattern call = Pattern.compile("floor\\.(\\w+)\\(([-\\d, ]*)\\); +// (-?\\d+|true|false)\\b.*");
        TokenFloor floor = new TokenFloor();
        String[] lines = block.split("\n");
        due.same("it begins", lines[0].equals("TokenFloor floor = new TokenFloor();") ? 1 : 0, 1);
        for (int i = 1; i < lines.length; i++) {
            Matcher line = call.matcher(lines[i]);
            boolean readable = line.matches();
            due.holds("a call and its answer: " + lines[i], readable);
            if (readable) {
                used.add(line.group(1));
                String got = answer(floor, line.group(1), line.group(2).split(", "));
                due.holds(lines[i] + " answered " + got, got.equals(line.group(3)));
            }
        }
    }

    private static String answer(TokenFloor floor, String name, String[] texts) {
        Class<?>[] types = new Class<?>[texts.length];
        Object[] arguments = new Object[texts.length];
        for (int i = 0; i < texts.length; i++) {
            types[i] = int.class;
            arguments[i] = Integer.valueOf(texts[i]);
        }
        try {
            return String.valueOf(TokenFloor.class.getMethod(name, types).invoke(floor, arguments));
        } catch (ReflectiveOperationException e) {
            return e.toString();
        }
    }

    private static void words(Due due, String readme) {
        String told = inOneLine(readme);
        for (String name : calls()) {
            due.holds("the call " + name, told.contains(" " + name + "(int "));
        }
        String document = document();
        if (document.isEmpty()) {
            System.out.println("ReadmeTest: no " + DOCUMENT + ": its words were not compared");
            return;
        }
        Matcher promise = Pattern.compile("(?s)\n## Promise (\\d+): [^\n]*\n(.*?)(?=\n## )")
            .matcher(document);
        int found = 0;
        while (promise.find()) {
            found++;
            String item = promise.group(1) + ". " + inOneLine(promise.group(2));
            due.holds("promise " + item, told.contains(" " + item + " "));
        }
        due.same("promises", found, 13);
        Matcher constant = Pattern.compile("The constants: (.*)").matcher(document);
        due.holds("the constants", constant.find() && told.contains(constant.group(1).trim()));
    }

    private static String document() {
        try {
            return Files.isReadable(DOCUMENT) ? Files.readString(DOCUMENT) : "";
        } catch (IOException e) {
            throw new IllegalStateException(e);
        }
    }

    private static String inOneLine(String text) {
        return text.trim().replaceAll("\\s+", " ");
    }

    private static void kinds(Due due, String readme) {
        Pattern row = Pattern.compile("\\| (\\d+)( [A-Z]+)? \\| (\\d)[^|]* \\| ([^|]+) \\| [^|]+ \\|");
        Matcher rows = row.matcher(readme);
        int kind = 0;
        while (rows.find()) {
            due.same("the next kind", Integer.parseInt(rows.group(1)), kind);
            TokenFloor x = new TokenFloor();
            x.act(kind, 0, 1);
            due.same("ports of " + kind, x.told(0, 2), Integer.parseInt(rows.group(3)));
            boolean any = rows.group(4).equals("any");
            due.same("number -1 of " + kind, x.act(kind, -1, 1), any ? 1 : -1);
            kind++;
        }
        due.same("kinds", kind, 22);
        due.same("no more", new TokenFloor().act(kind, 0, 1), -1);
    }

    private static Set<String> testFiles() throws IOException {
        Set<String> names = new TreeSet<>();
        Path folder = Path.of("src/test/java");
        try (DirectoryStream<Path> files = Files.newDirectoryStream(folder, "*Test.java")) {
            for (Path file : files) {
                names.add(file.getFileName().toString().replace(".java", ""));
            }
        }
        return names;
    }

    private static void tests(Due due, String readme, Set<String> files) {
        Set<String> named = new TreeSet<>();
        Matcher rows = Pattern.compile("(?m)^\\| `(\\w+Test)` \\|").matcher(readme);
        while (rows.find()) {
            named.add(rows.group(1));
        }
        due.holds("the tests named are those that are there: " + named, named.equals(files));
    }
}
