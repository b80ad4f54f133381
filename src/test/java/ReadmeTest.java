import java.io.IOException;
import java.lang.reflect.Method;
import java.lang.reflect.Modifier;
import java.net.URL;
import java.net.URLClassLoader;
import java.nio.file.Files;
import java.nio.file.Path;
import java.util.ArrayList;
import java.util.List;
import java.util.regex.Matcher;
import java.util.regex.Pattern;
import java.util.stream.Stream;
import javax.tools.ToolProvider;

/** What README.md tells of the class: its pieces of Java are one run, the number behind "//" is the answer due. */
public final class ReadmeTest {
    private static final Due due = new Due("ReadmeTest");
    private static final Pattern ANSWER = Pattern.compile("(?:(int|long) (\\w+) = )?(x\\.\\w+\\(.*\\)); *// (-?\\d+)\\b.*");
    private static final Pattern CALL = Pattern.compile("(?:(?:int|long) \\w+ = )?x\\.\\w+\\(.*\\);.*");

    private final List<String> wants = new ArrayList<>();
    private final StringBuilder members = new StringBuilder();
    private final StringBuilder run = new StringBuilder();

    public static void main(String[] args) throws Exception {
        List<String> lines = Files.readAllLines(Path.of("README.md"));
        new ReadmeTest().pieces(lines);
        everyCall(String.join("\n", lines));
        howToTest(String.join("\n", lines));
        due.end();
    }

    private static void everyCall(String readme) {
        for (Method m : WallsLeft.class.getDeclaredMethods()) {
            if (Modifier.isPublic(m.getModifiers())) {
                int many = m.getParameterCount();
                String parameters = many == 0 ? "" : "\\w+" + ", \\w+".repeat(many - 1);
                boolean told = Pattern.compile("`" + m.getName() + "\\(" + parameters + "\\)`").matcher(readme).find();
                due.so(told, m.getName() + " stands in README.md with its parameters");
            }
        }
    }

    private static void howToTest(String readme) throws IOException {
        due.so(readme.contains("bash .ci/run"), "how to run the tests");
        try (Stream<Path> files = Files.list(Path.of("src/test/java"))) {
            for (Path file : (Iterable<Path>) files::iterator) {
                String name = file.getFileName().toString().replace(".java", "");
                due.so(!name.endsWith("Test") || readme.contains("- `" + name + "`:"), name + " stands in README.md");
            }
        }
    }

    private void pieces(List<String> lines) throws Exception {
        boolean java = false;
        boolean member = false;
        for (String line : lines) {
            if (line.startsWith("```")) {
                java = line.equals("```java");
                member = false;
            } else if (java) {
                member |= line.startsWith("static ");
                put(line, member);
            }
        }
        due.so(wants.size() >= 30, "README.md shows answers: " + wants.size());
        hold(answers());
    }

    private void put(String line, boolean member) {
        Matcher answer = ANSWER.matcher(line);
        if (member) {
            members.append(line).append('\n');
        } else if (answer.matches()) {
            String variable = answer.group(2);
            if (variable != null) {
                run.append(answer.group(1)).append(' ').append(variable).append(" = ").append(answer.group(3)).append(";\n");
            }
            run.append("told.add((long) ").append(variable == null ? answer.group(3) : variable).append(");\n");
            wants.add(line);
        } else {
            due.so(!CALL.matcher(line).matches(), "an answer is told behind " + line);
            run.append(line).append('\n');
        }
    }

    /** What the class answers, line by line. */
    private List<?> answers() throws Exception {
        String source = "public final class Readme {\n    static final int NONE = WallsLeft.NONE;\n" + members
            + "public static java.util.List<Long> run() {\njava.util.List<Long> told = new java.util.ArrayList<>();\n" + run + "return told;\n}\n}\n";
        Path out = Files.createTempDirectory("readme");
        try {
            Path file = Files.writeString(out.resolve("Readme.java"), source);
            String classes = System.getProperty("java.class.path");
            int failed = ToolProvider.getSystemJavaCompiler().run(null, null, null, "-proc:none", "-cp", classes, "-d", out.toString(), file.toString());
            due.is(0, failed, "README.md's Java compiles");
            if (failed != 0) {
                return List.of();
            }
            try (URLClassLoader loader = new URLClassLoader(new URL[] {out.toUri().toURL()})) {
                return (List<?>) loader.loadClass("Readme").getMethod("run").invoke(null);
            }
        } finally {
            try (Stream<Path> files = Files.list(out)) {
                for (Path file : (Iterable<Path>) files::iterator) {
                    Files.delete(file);
                }
            }
            Files.delete(out);
        }
    }

    private void hold(List<?> answers) {
        due.is(wants.size(), answers.size(), "answers");
        for (int i = 0; i < Math.min(wants.size(), answers.size()); i++) {
            Matcher answer = ANSWER.matcher(wants.get(i));
            due.so(answer.matches(), wants.get(i));
            due.is(Long.parseLong(answer.group(4)), (Long) answers.get(i), wants.get(i));
        }
    }
}
