import java.io.IOException;
import java.lang.reflect.Method;
import java.lang.reflect.Modifier;
import java.nio.file.Files;
import java.nio.file.Path;
import java.util.List;
import java.util.Set;
import java.util.TreeSet;
import java.util.regex.Matcher;
import java.util.regex.Pattern;
import java.util.stream.Stream;

/** What README.md says of the class and of the tests is so. */
public final class ReadmeTest {
    private static final Path README = Path.of("README.md"), TESTS = Path.of("src/test/java");
    private static final Pattern CALL = Pattern.compile("x\\.(\\w+)\\((.*?)\\); +// (-?\\d+): .*");
    private static int checked = 0;
    private static int wrong = 0;

    public static void main(String[] args) throws Exception {
        List<String> lines = Files.readAllLines(README);
        Set<String> called = callsAnswerAsTold(lines);
        for (Method method : DropRows.class.getDeclaredMethods()) {
            if (Modifier.isPublic(method.getModifiers())) {
                hold(called.contains(method.getName()), method.getName() + "() is shown");
            }
        }
        testsAreNamed(String.join("\n", lines));
        System.out.println(checked + " things that README.md says checked, " + wrong + " not so");
        if (wrong != 0) {
            System.exit(1);
        }
    }

    private static void hold(boolean holds, String what) {
        checked++;
        if (!holds) {
            wrong++;
            System.out.println("not so: " + what);
        }
    }

    /** Makes the calls of the example, line by line; the names of those made. */
    private static Set<String> callsAnswerAsTold(List<String> lines) throws ReflectiveOperationException {
        Set<String> called = new TreeSet<>();
        DropRows x = new DropRows();
        int from = lines.indexOf("```java") + 1;
        for (int i = from; i < lines.size() && !lines.get(i).equals("```"); i++) {
            String line = lines.get(i);
            if (line.startsWith("x.")) {
                Matcher call = CALL.matcher(line);
                hold(call.matches(), "a call and its answer: " + line);
                if (call.matches()) {
                    called.add(call.group(1));
                    long answer = answerOf(x, call.group(1), call.group(2));
                    hold(answer == Long.parseLong(call.group(3)), line + " (the answer is " + answer + ")");
                }
            } else {
                hold(line.isEmpty() || line.startsWith("// ") || line.startsWith("DropRows x = new DropRows(); "),
                        "a line of the example: " + line);
            }
        }
        return called;
    }

    private static long answerOf(DropRows x, String name, String arguments) throws ReflectiveOperationException {
        String[] texts = arguments.isEmpty() ? new String[0] : arguments.split(", ");
        Class<?>[] types = new Class<?>[texts.length];
        Object[] values = new Object[texts.length];
        for (int i = 0; i < texts.length; i++) {
            boolean isTruth = texts[i].equals("true") || texts[i].equals("false");
            types[i] = isTruth ? boolean.class : int.class;
            values[i] = isTruth ? (Object) Boolean.valueOf(texts[i]) : (Object) Integer.valueOf(texts[i]);
        }
        return ((Number) DropRows.class.getMethod(name, types).invoke(x, values)).longValue();
    }

    private static void testsAreNamed(String text) throws IOException {
        Set<String> there = new TreeSet<>();
        try (Stream<Path> files = Files.walk(TESTS)) {
            files.map(file -> file.getFileName().toString()).filter(name -> name.endsWith(".java"))
                    .forEach(name -> there.add(name.replace(".java", "")));
        }
        for (String name : there) {
            hold(text.contains("`" + name + "`"), "README.md names " + name);
        }
        Matcher named = Pattern.compile("`(\\w+Test)`").matcher(text);
        while (named.find()) {
            hold(there.contains(named.group(1)), "there is a test " + named.group(1));
        }
    }
}
