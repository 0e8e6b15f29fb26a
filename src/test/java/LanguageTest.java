import java.io.IOException;
import java.lang.reflect.Field;
import java.lang.reflect.Method;
import java.lang.reflect.Modifier;
import java.nio.file.Files;
import java.nio.file.Paths;
import java.util.Arrays;
import java.util.HashSet;
import java.util.List;
import java.util.Set;
import java.util.regex.Matcher;
import java.util.regex.Pattern;

/** The rules of LANGUAGE.md that can be seen in the program's text. Is run where README.md is. */
public final class LanguageTest {
    private static final String SOURCE = "src/main/java/NightCycler.java";
    private static final List<String> EXCEPTIONS = Arrays.asList("IllegalStateException",
        "IllegalArgumentException", "IndexOutOfBoundsException", "UnsupportedOperationException");
    private static final String[] NOT_IN_THE_LANGUAGE = {"->", "::", "import ", "package ", "synchronized", "assert ",
        "finally", "try ", "catch ", "static {", "Exact(", "System.", "String", "double", "float", "protected "};
    private static final int LONGEST_METHOD = 60;
    private static final int MOST_PARAMETERS = 7;
    private static final int MOST_FIELDS = 20;

    public static void main(String[] args) throws IOException {
        List<String> lines = Files.readAllLines(Paths.get(SOURCE));
        Check.yes("the program is there", lines.size() > 100);
        for (int i = 0; i < lines.size(); i++) {
            String code = withoutComment(lines.get(i));
            wordsThatAreNone(i + 1, code);
            whatIsThrown(i + 1, code);
            whatIsMade(i + 1, code);
        }
        methodsAreShort(lines);
        classesInside();
        Check.finish();
    }

    private static String withoutComment(String line) {
        String code = line.trim();
        return code.startsWith("*") || code.startsWith("/*") || code.startsWith("//") ? "" : line;
    }

    private static void wordsThatAreNone(int number, String code) {
        for (String word : NOT_IN_THE_LANGUAGE) {
            Check.no("line " + number + " has " + word, code.contains(word));
        }
    }

    private static void whatIsThrown(int number, String code) {
        Matcher thrown = Pattern.compile("throw new (\\w+)\\(\\);").matcher(code);
        if (code.contains("throw ")) {
            Check.yes("line " + number + " throws as rule 6 writes it",
                thrown.find() && EXCEPTIONS.contains(thrown.group(1)));
        }
    }

    /** All objects are made with the machine, so that no call takes room for itself. */
    private static void whatIsMade(int number, String code) {
        if (code.contains("new ") && !code.contains("throw new ")) {
            Check.yes("line " + number + " makes an object in a field", code.trim().startsWith("private final "));
        }
    }

    private static void methodsAreShort(List<String> lines) {
        Pattern head = Pattern.compile("^( +)[^ ].*\\).* \\{$");
        Pattern flow = Pattern.compile("^ +(if|for|while|switch|else|\\}).*");
        for (int i = 0; i < lines.size(); i++) {
            Matcher m = head.matcher(lines.get(i));
            if (m.matches() && !flow.matcher(lines.get(i)).matches()) {
                int end = i;
                while (end < lines.size() - 1 && !lines.get(end).equals(m.group(1) + "}")) {
                    end++;
                }
                Check.yes("line " + (i + 1) + " begins a short method: " + (end - i), end - i <= LONGEST_METHOD);
            }
        }
    }

    private static void classesInside() {
        Set<String> face = new HashSet<>();
        for (Method m : NightCycler.class.getDeclaredMethods()) {
            if (Modifier.isPublic(m.getModifiers())) {
                face.add(m.getName());
            }
            parameters(m);
        }
        for (Class<?> c : NightCycler.class.getDeclaredClasses()) {
            for (Method m : c.getDeclaredMethods()) {
                Check.no(m + " bears a name of the face", face.contains(m.getName()));
                parameters(m);
            }
            int own = 0;
            for (Field f : c.getDeclaredFields()) {
                own += Modifier.isStatic(f.getModifiers()) ? 0 : 1;
            }
            Check.yes(c + " has " + own + " fields", own <= MOST_FIELDS);
        }
    }

    private static void parameters(Method m) {
        Check.yes(m + " has few parameters", m.getParameterCount() <= MOST_PARAMETERS);
    }
}
