import java.io.IOException;
import java.lang.reflect.Field;
import java.lang.reflect.Method;
import java.lang.reflect.Modifier;
import java.nio.file.Files;
import java.nio.file.Path;
import java.util.ArrayList;
import java.util.Arrays;
import java.util.HashSet;
import java.util.List;
import java.util.Set;
import java.util.TreeSet;

/** The face of the class, and those rules of LANGUAGE.md that its text shows; its argument is the path of the source. */
public final class LanguageTest {
    private static final String[] FACE = {
        "write(int,int):int throws IndexOutOfBoundsException,IllegalStateException",
        "read(int):int throws IndexOutOfBoundsException,IllegalStateException",
        "erase(int):int throws IndexOutOfBoundsException,IllegalStateException",
        "copy(int,int):int throws IndexOutOfBoundsException,IllegalStateException",
        "pass(int):int throws IllegalArgumentException",
        "addMatch(int,int,int):int throws IllegalArgumentException,IllegalStateException",
        "removeMatch(int):int throws IndexOutOfBoundsException,IllegalStateException",
        "set(int,int):int throws IndexOutOfBoundsException,IllegalArgumentException",
        "append(int):int throws IllegalArgumentException,IllegalStateException",
        "clearBuffer():int",
        "firstError():int",
        "run():int throws IllegalArgumentException",
        "undo():int throws IllegalStateException",
        "page(int,int):int throws IndexOutOfBoundsException,IllegalArgumentException",
        "data(int):int throws IndexOutOfBoundsException",
        "cell(int,int,int):int throws IndexOutOfBoundsException,IllegalArgumentException",
        "match(int,int):int throws IndexOutOfBoundsException,IllegalArgumentException",
        "count(int):int throws IllegalArgumentException",
        "setting(int):int throws IndexOutOfBoundsException",
        "wrong(int,int):int throws IndexOutOfBoundsException",
        "ifRead(int,int):int throws IndexOutOfBoundsException,IllegalArgumentException",
        "life(int):int throws IndexOutOfBoundsException",
        "bestShift(int,int):int throws IndexOutOfBoundsException,IllegalArgumentException",
        "lostIn(int):int throws IllegalArgumentException",
        "spare():int",
        "meanFee():double",
        "digest():long",
    };

    private static final String[] FORBIDDEN = {"import ", "package ", "->", "::", "static {", "try {", "catch (", "finally",
        "synchronized", "assert ", "instanceof", "Exact", "Double.", "Object", "protected ", "System.out", "System.exit",
        "new Random", "Thread", "\" +", "+ \"", ".hashCode", ".toString", "@"};

    private LanguageTest() {
    }

    public static void main(String[] args) throws IOException {
        face();
        members();
        String source = Files.readString(Path.of(args[0]));
        forbiddenWords(source);
        libraryCalls(source);
        methodLengths(source);
        Check.end("LanguageTest");
    }

    private static void face() {
        Set<String> got = new TreeSet<>();
        for (Method method : FlashLevels.class.getDeclaredMethods()) {
            if (Modifier.isPublic(method.getModifiers())) {
                got.add(signature(method));
            }
        }
        Check.due("public methods " + got, got.equals(new TreeSet<>(Arrays.asList(FACE))));
        Check.due("one public constructor", FlashLevels.class.getDeclaredConstructors().length == 1
                && FlashLevels.class.getConstructors().length == 1
                && FlashLevels.class.getConstructors()[0].getParameterCount() == 0);
        int modifiers = FlashLevels.class.getModifiers();
        Check.due("public final class", Modifier.isPublic(modifiers) && Modifier.isFinal(modifiers));
        List<String> fields = new ArrayList<>();
        for (Field field : FlashLevels.class.getDeclaredFields()) {
            if (!Modifier.isPrivate(field.getModifiers())) {
                fields.add(Modifier.toString(field.getModifiers()) + " " + field.getType() + " " + field.getName());
            }
        }
        Check.due("public fields " + fields, fields.equals(List.of("public static final int NONE")));
    }

    private static String signature(Method method) {
        StringBuilder text = new StringBuilder(method.getName()).append('(');
        for (Class<?> type : method.getParameterTypes()) {
            text.append(text.charAt(text.length() - 1) == '(' ? "" : ",").append(type.getName());
        }
        text.append("):").append(method.getReturnType().getName());
        String between = " throws ";
        for (Class<?> type : method.getExceptionTypes()) {
            text.append(between).append(type.getSimpleName());
            between = ",";
        }
        return text.toString();
    }

    private static void members() {
        Set<String> names = new HashSet<>();
        for (String signature : FACE) {
            names.add(signature.substring(0, signature.indexOf('(')));
        }
        List<Class<?>> classes = new ArrayList<>(List.of(FlashLevels.class.getDeclaredClasses()));
        Check.due("classes inside", classes.size() <= 11);
        for (Class<?> inside : classes) {
            Check.due(inside + " is private and static", Modifier.isPrivate(inside.getModifiers())
                    && Modifier.isStatic(inside.getModifiers()));
        }
        classes.add(FlashLevels.class);
        for (Class<?> each : classes) {
            for (Method method : each.getDeclaredMethods()) {
                boolean isFace = each == FlashLevels.class && Modifier.isPublic(method.getModifiers());
                Check.due(method + " has a name of the face", isFace || !names.contains(method.getName()));
                Check.due(method + " is private", isFace || each != FlashLevels.class
                        || Modifier.isPrivate(method.getModifiers()));
                Check.due(method + " has at most seven parameters", method.getParameterCount() <= 7);
            }
            int own = 0;
            for (Field field : each.getDeclaredFields()) {
                boolean fixed = Modifier.isStatic(field.getModifiers());
                own += fixed ? 0 : 1;
                Check.due(field + " is final if static", !fixed || Modifier.isFinal(field.getModifiers()));
            }
            Check.due(each + " has at most twenty fields", own <= 20);
        }
    }

    private static void forbiddenWords(String source) {
        for (String word : FORBIDDEN) {
            Check.due("the source has no " + word, !source.contains(word));
        }
        for (int i = 0; i < source.length(); i++) {
            if (source.charAt(i) > 126) {
                Check.fail("a sign beyond 126 at " + i);
            }
        }
    }

    /** Each capitalised name before a dot must be of the library that is allowed, or of the file's own. */
    private static void libraryCalls(String source) {
        Set<String> allowed = Set.of("Math.min", "Math.max", "Integer.bitCount", "System.arraycopy",
                "Page.levelOf", "Memory.matchOfTry", "CommandText.MOST_CODES");
        java.util.regex.Matcher matcher = java.util.regex.Pattern.compile("\\b[A-Z][a-z]\\w*\\.\\w+").matcher(source);
        while (matcher.find()) {
            Check.due("allowed: " + matcher.group(), allowed.contains(matcher.group()));
        }
    }

    /** A method begins at the line of its head, and ends at the closing brace of the same depth. */
    private static void methodLengths(String source) {
        String[] lines = source.split("\n");
        for (int i = 0; i < lines.length; i++) {
            String line = lines[i];
            boolean head = line.matches(" {4}( {4})?[\\w\\[\\]]+ .*\\) *(throws [\\w, ]+)?\\{");
            if (!head) {
                continue;
            }
            String indent = line.substring(0, line.length() - line.stripLeading().length());
            int end = i;
            while (end < lines.length && !lines[end].equals(indent + "}")) {
                end++;
            }
            Check.due("lines of " + line.strip(), end - i < 60);
        }
    }
}
