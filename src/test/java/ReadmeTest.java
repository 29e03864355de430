import java.io.File;
import java.lang.reflect.Method;
import java.lang.reflect.Modifier;
import java.nio.charset.StandardCharsets;
import java.nio.file.Files;
import java.nio.file.Path;
import java.util.ArrayList;
import java.util.List;
import java.util.regex.Matcher;
import java.util.regex.Pattern;

/** README.md against the class: its program prints what it says, and it tells each call of the face as it is. */
public final class ReadmeTest {
    private static final Path README = Path.of("README.md");
    private static final Pattern PROGRAM = Pattern.compile("```java\n(.*?)```", Pattern.DOTALL);
    private static final Pattern PRINTED = Pattern.compile("System\\.out\\.println\\(.*\\); +// ([^,\n]+)");
    private static final Pattern ENTRY = Pattern.compile("- `(\\w+ \\w+\\([^)]*\\))`:(.*)");
    private static final Pattern EXCEPTION = Pattern.compile("\\w+Exception");

    private ReadmeTest() {
    }

    public static void main(String[] args) throws Exception {
        String readme = Files.readString(README);
        program(readme);
        calls(readme);
        Check.due("the calls that an object answers for are told",
                readme.contains("An object answers for 512 calls after it has been made"));
        Check.due("NONE is told", readme.contains("`FlashLevels.NONE`, which is " + FlashLevels.NONE + ","));
        Check.end("ReadmeTest");
    }

    private static void program(String readme) throws Exception {
        Matcher matcher = PROGRAM.matcher(readme);
        Check.due("there is a program", matcher.find());
        String program = matcher.group(1);
        List<String> due = new ArrayList<>();
        Matcher printed = PRINTED.matcher(program);
        while (printed.find()) {
            due.add(printed.group(1).strip());
        }
        Check.due("each println tells what it prints", due.size() == program.split("println", -1).length - 1);
        List<String> got = printedBy(program);
        Check.due("the program prints " + due + ", it printed " + got, got.equals(due));
        Check.due("there is one program alone", !matcher.find());
    }

    private static List<String> printedBy(String program) throws Exception {
        Path directory = Files.createTempDirectory("readme");
        Path source = directory.resolve("Example.java");
        String path = System.getProperty("java.class.path") + File.pathSeparator + directory;
        try {
            Files.writeString(source, program);
            List<String> told = output("javac", "-cp", path, "-d", directory.toString(), source.toString());
            Check.due("the program is compiled: " + told, told.isEmpty());
            return output("java", "-cp", path, "Example");
        } finally {
            Files.deleteIfExists(directory.resolve("Example.class"));
            Files.deleteIfExists(source);
            Files.deleteIfExists(directory);
        }
    }

    private static List<String> output(String... command) throws Exception {
        Process process = new ProcessBuilder(command).redirectErrorStream(true).start();
        String printed = new String(process.getInputStream().readAllBytes(), StandardCharsets.UTF_8);
        Check.due(command[0] + " ends with 0", process.waitFor(), 0);
        return printed.lines().toList();
    }

    /** Each call of the face has an entry of its own, which names its exceptions in their order. */
    private static void calls(String readme) {
        List<String> got = new ArrayList<>();
        for (String entry : entries(readme)) {
            Matcher matcher = ENTRY.matcher(entry);
            Check.due("an entry of a call: " + entry, matcher.matches());
            got.add(withoutNames(matcher.group(1)) + exceptionsIn(matcher.group(2)));
            Check.due("what it throws is told: " + entry, entry.contains("Throws "));
        }
        List<String> due = new ArrayList<>();
        for (Method method : FlashLevels.class.getDeclaredMethods()) {
            if (Modifier.isPublic(method.getModifiers())) {
                due.add(told(method));
            }
        }
        got.sort(null);
        due.sort(null);
        Check.due("the calls of the face are " + due + ", README.md tells " + got, got.equals(due));
    }

    /** The entries from the first heading of calls on, each in one line. */
    private static List<String> entries(String readme) {
        int from = readme.indexOf("\n### Writing, reading, hours\n");
        int to = readme.indexOf("\n## Running the tests\n");
        Check.due("the calls have headings of their own", from >= 0 && to > from);
        List<String> entries = new ArrayList<>();
        if (from < 0 || to <= from) {
            return entries;
        }
        for (String block : readme.substring(from, to).split("\n(?=- |#|\n)")) {
            if (block.startsWith("- ")) {
                entries.add(block.strip().replaceAll("\\s+", " "));
            }
        }
        return entries;
    }

    /** "int write(int page, int data)" becomes "int write(int, int)". */
    private static String withoutNames(String head) {
        int open = head.indexOf('(');
        return head.substring(0, open) + head.substring(open).replaceAll("(\\w+) \\w+", "$1");
    }

    private static List<String> exceptionsIn(String text) {
        List<String> names = new ArrayList<>();
        Matcher matcher = EXCEPTION.matcher(text);
        while (matcher.find()) {
            names.add(matcher.group());
        }
        return names;
    }

    private static String told(Method method) {
        List<String> types = new ArrayList<>();
        for (Class<?> type : method.getParameterTypes()) {
            types.add(type.getName());
        }
        List<String> exceptions = new ArrayList<>();
        for (Class<?> type : method.getExceptionTypes()) {
            exceptions.add(type.getSimpleName());
        }
        return method.getReturnType().getName() + " " + method.getName() + "(" + String.join(", ", types) + ")" + exceptions;
    }
}
