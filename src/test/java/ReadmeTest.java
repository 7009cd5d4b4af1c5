import java.io.File;
import java.io.StringWriter;
import java.lang.reflect.Method;
import java.lang.reflect.Modifier;
import java.net.URI;
import java.net.URL;
import java.net.URLClassLoader;
import java.nio.file.Files;
import java.nio.file.Path;
import java.util.ArrayList;
import java.util.List;
import java.util.Set;
import java.util.TreeSet;
import java.util.regex.Matcher;
import java.util.regex.Pattern;
import javax.tools.JavaFileObject;
import javax.tools.SimpleJavaFileObject;
import javax.tools.ToolProvider;

/**
 * README.md shows calls as the use of the class, each with its answer: they are compiled as they stand
 * there, as one program, and their answers are compared.
 */
public final class ReadmeTest {
    // A statement whose last call is answered: "int boat = x.enter(100);  // 0: its number".
    private static final Pattern ANSWERED = Pattern.compile(
            "(?:int (\\w+) = )?(x\\.(\\w+)\\(.*\\));\\s+// (-?\\d+(?:\\.\\d+)?|[A-Z_]+)(?::.*)?");
    private static final String NAME = "Shown";
    private static final Due due = new Due();

    private final List<String> calls = new ArrayList<>();
    private final List<Double> wanted = new ArrayList<>();
    private final Set<String> methods = new TreeSet<>();
    private final StringBuilder body = new StringBuilder();

    /** The first argument is the project's folder; without it, it is the one we are in. */
    public static void main(String[] args) throws Exception {
        Path readme = Path.of(args.length > 0 ? args[0] : ".", "README.md");
        ReadmeTest test = new ReadmeTest();
        test.read(Files.readAllLines(readme));
        test.compareAnswers();
        test.allMethodsAreShown();
        due.end();
    }

    private void read(List<String> lines) throws Exception {
        boolean isJava = false;
        int depth = 0;
        for (String line : lines) {
            if (line.startsWith("```")) {
                isJava = line.equals("```java");
            } else if (isJava) {
                depth -= line.strip().startsWith("}") ? 1 : 0;
                readStatement(line.strip(), depth > 0);
                depth += line.strip().endsWith("{") ? 1 : 0;
            }
        }
    }

    private void readStatement(String line, boolean isRepeated) throws Exception {
        Matcher answered = ANSWERED.matcher(line);
        if (!answered.matches()) {
            due.holds("the README tells the answer of " + line, isRepeated || !line.matches(".*\\bx\\..*"));
            body.append(line).append('\n');
            return;
        }
        String name = answered.group(1);
        String call = answered.group(2);
        String answer = "answers[" + calls.size() + "] = ";
        if (name == null) {
            body.append(answer).append(call).append(";\n");
        } else {
            body.append("int ").append(name).append(" = ").append(call).append(";\n");
            body.append(answer).append(name).append(";\n");
        }
        calls.add(call);
        methods.add(answered.group(3));
        wanted.add(value(answered.group(4)));
    }

    private static double value(String answer) throws Exception {
        boolean isConstant = Character.isLetter(answer.charAt(0));
        return isConstant ? RegattaTimes.class.getField(answer).getInt(null) : Double.parseDouble(answer);
    }

    private void compareAnswers() throws Exception {
        double[] answers = answers();
        for (int i = 0; i < calls.size(); i++) {
            due.holds("README: " + calls.get(i) + " answered " + answers[i] + ", it says " + wanted.get(i),
                    Double.compare(answers[i], wanted.get(i)) == 0);
        }
    }

    /** All NaN if the program of the README does not compile. */
    private double[] answers() throws Exception {
        String source = "public final class " + NAME + " {\npublic static void run(double[] answers) {\n" + body
                + "}\n}\n";
        double[] answers = new double[calls.size()];
        java.util.Arrays.fill(answers, Double.NaN);
        File classes = Files.createTempDirectory("readme").toFile();
        try {
            if (compiles(source, classes)) {
                URL[] path = {classes.toURI().toURL()};
                try (URLClassLoader loader = new URLClassLoader(path, ReadmeTest.class.getClassLoader())) {
                    loader.loadClass(NAME).getMethod("run", double[].class).invoke(null, (Object) answers);
                }
            }
        } finally {
            new File(classes, NAME + ".class").delete();
            classes.delete();
        }
        return answers;
    }

    private static boolean compiles(String source, File classes) {
        JavaFileObject file = new SimpleJavaFileObject(URI.create("string:///" + NAME + ".java"),
                JavaFileObject.Kind.SOURCE) {
            @Override
            public CharSequence getCharContent(boolean isLenient) {
                return source;
            }
        };
        StringWriter said = new StringWriter();
        List<String> options = List.of("-proc:none", "-classpath", System.getProperty("java.class.path"),
                "-d", classes.getPath());
        boolean isCompiled = ToolProvider.getSystemJavaCompiler()
                .getTask(said, null, null, options, null, List.of(file)).call();
        due.holds("the program of the README compiles: " + said, isCompiled);
        return isCompiled;
    }

    private void allMethodsAreShown() {
        for (Method method : RegattaTimes.class.getDeclaredMethods()) {
            if (Modifier.isPublic(method.getModifiers())) {
                due.holds("the README shows " + method.getName(), methods.contains(method.getName()));
            }
        }
    }
}
