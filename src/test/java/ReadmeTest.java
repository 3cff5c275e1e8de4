import java.io.IOException;
import java.lang.reflect.Field;
import java.lang.reflect.Method;
import java.lang.reflect.Modifier;
import java.net.URI;
import java.nio.file.Files;
import java.nio.file.Path;
import java.util.ArrayList;
import java.util.List;
import java.util.regex.Matcher;
import java.util.regex.Pattern;
import javax.tools.JavaCompiler;
import javax.tools.SimpleJavaFileObject;
import javax.tools.ToolProvider;

/** README.md: its runs answer what stands behind their calls, and it names each member of the face. */
public final class ReadmeTest {
    private static final Path README = Path.of("README.md");
    private static final String RUN = "ReadmeRun";
    // a call with a comment that begins with its answer: a number or a constant, alone or ahead of more text
    private static final Pattern SHOWN = Pattern.compile("(yard\\..*);\\s+// (-?\\d+|[A-Z_]{2,})(?:[:;].*)?");

    private static int shown = 0;

    public static void main(String[] args) throws IOException, ReflectiveOperationException {
        Due.part(README.toString());
        List<String> lines = Files.readAllLines(README);
        namesEachMember(String.join("\n", lines));
        run(source(lines));
        Due.isTrue("the runs show answers", shown > 50);
        Due.end();
    }

    private static void namesEachMember(String text) {
        for (Method method : SegmentYard.class.getDeclaredMethods()) {
            if (Modifier.isPublic(method.getModifiers())) {
                Due.isTrue("a run calls " + method.getName(), text.contains("yard." + method.getName() + "("));
            }
        }
        for (Field field : SegmentYard.class.getFields()) {
            Due.isTrue("tells of " + field.getName(), Pattern.compile("\\b" + field.getName() + "\\b").matcher(text).find());
        }
    }

    /** A class whose method does what stands in the blocks of code; a block that makes an object begins a new run. */
    private static String source(List<String> lines) {
        List<String> code = new ArrayList<>();
        code.add("final class " + RUN + " { static void run() { {");
        boolean isCode = false;
        for (int i = 0; i < lines.size(); i++) {
            String line = lines.get(i).trim();
            if (line.startsWith("```")) {
                isCode = line.equals("```java");
            } else if (isCode) {
                code.add(line.startsWith("SegmentYard yard") ? "} { " + line : compared(i + 1, line));
            }
        }
        code.add("} } }");
        return String.join("\n", code);
    }

    private static String compared(int number, String line) {
        Matcher match = SHOWN.matcher(line);
        if (!match.matches()) {
            return line;
        }
        shown++;
        String answer = match.group(2);
        String due = Character.isUpperCase(answer.charAt(0)) ? "SegmentYard." + answer : answer;
        return "Due.is(\"line " + number + ": " + match.group(1) + "\", " + due + ", " + match.group(1) + ");";
    }

    /** Compiles the class to where this one lies, and runs it. */
    private static void run(String source) throws ReflectiveOperationException {
        String path = System.getProperty("java.class.path");
        JavaCompiler compiler = ToolProvider.getSystemJavaCompiler();
        boolean isCompiled = compiler.getTask(null, null, null, List.of("-cp", path, "-d", path), null,
            List.of(new Source(source))).call();
        Due.isTrue("the runs compile", isCompiled);
        if (isCompiled) {
            Class.forName(RUN).getDeclaredMethod("run").invoke(null);
        }
    }

    /** The text of the class for the compiler. */
    private static final class Source extends SimpleJavaFileObject {
        private final String text;

        Source(String text) {
            super(URI.create("string:///" + RUN + ".java"), Kind.SOURCE);
            this.text = text;
        }

        @Override
        public CharSequence getCharContent(boolean ignoreEncodingErrors) {
            return text;
        }
    }
}
