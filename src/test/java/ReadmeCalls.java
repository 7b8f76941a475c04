import java.io.IOException;
import java.io.UncheckedIOException;
import java.lang.reflect.Method;
import java.lang.reflect.Modifier;
import java.net.URL;
import java.net.URLClassLoader;
import java.nio.file.Files;
import java.nio.file.Path;
import java.util.ArrayList;
import java.util.Comparator;
import java.util.List;
import java.util.regex.Matcher;
import java.util.regex.Pattern;
import java.util.stream.Stream;
import javax.tools.JavaCompiler;
import javax.tools.ToolProvider;

/**
 * Runs the Java that README.md shows, as it stands there, and compares each answer with the one that begins the comment
 * of its line. To be run where README.md lies.
 */
public final class ReadmeCalls {
    private static final Pattern ANSWER = Pattern.compile("\\s*(-?\\d+|true|false)(?![\\w-]).*");
    private static final Pattern KEEPS_IT = Pattern.compile("(?:int|boolean)\\s+(\\w+)\\s*=.*");

    private static int wrong = 0;

    public static void main(String[] args) throws Exception {
        List<String> shown = linesOfJava(Files.readAllLines(Path.of("README.md")));
        everyCallIsShown(shown);
        run(program(shown));
        System.out.println(wrong == 0 ? "README.md answers as it says" : wrong + " parts of README.md are not as due");
        if (wrong != 0) {
            System.exit(1);
        }
    }

    private static void tell(String what) {
        wrong++;
        System.out.println("README.md: " + what);
    }

    private static List<String> linesOfJava(List<String> readme) {
        List<String> shown = new ArrayList<>();
        boolean inside = false;
        for (String line : readme) {
            if (line.startsWith("```")) {
                inside = line.equals("```java");
            } else if (inside && !line.isBlank()) {
                shown.add(line);
            }
        }
        return shown;
    }

    private static void everyCallIsShown(List<String> shown) {
        String all = String.join("\n", shown);
        for (Method m : VoiceForm.class.getDeclaredMethods()) {
            if (Modifier.isPublic(m.getModifiers()) && !all.contains("." + m.getName() + "(")) {
                tell("no call of " + m.getName() + " is shown");
            }
        }
    }

    /** A class whose method gives back what was not as said, one text for each. */
    private static String program(List<String> shown) {
        StringBuilder text = new StringBuilder("public final class Shown {\n"
                + "    static void due(java.util.List<String> wrong, String line, Object got, Object want) {\n"
                + "        if (!got.equals(want)) { wrong.add(line + \" - but it answered \" + got); }\n"
                + "    }\n"
                + "    public static java.util.List<String> run() {\n"
                + "        java.util.List<String> wrong = new java.util.ArrayList<>();\n");
        for (String line : shown) {
            addLine(text, line);
        }
        return text.append("        return wrong;\n    }\n}\n").toString();
    }

    private static void addLine(StringBuilder text, String line) {
        int comment = line.indexOf("//");
        String code = (comment < 0 ? line : line.substring(0, comment)).trim();
        Matcher answer = ANSWER.matcher(comment < 0 ? "" : line.substring(comment + 2));
        if (code.contains("new VoiceForm()")) {
            text.append(code).append('\n');
        } else if (!answer.matches() || !code.endsWith(";")) {
            tell("this line says no answer: " + line);
        } else {
            int last = code.lastIndexOf(';', code.length() - 2) + 1;
            String call = code.substring(last, code.length() - 1).trim();
            text.append(code, 0, last);
            Matcher keeps = KEEPS_IT.matcher(call);
            if (keeps.matches()) {
                text.append(call).append(";\n");
                call = keeps.group(1);
            }
            text.append("due(wrong, \"").append(line.replace("\\", "\\\\").replace("\"", "\\\"")).append("\", ")
                    .append(call).append(", ").append(answer.group(1)).append(");\n");
        }
    }

    private static void run(String program) throws Exception {
        JavaCompiler compiler = ToolProvider.getSystemJavaCompiler();
        if (compiler == null) {
            tell("there is no javac to compile its calls");
            return;
        }
        Path folder = Files.createTempDirectory("readme");
        try {
            Path source = Files.writeString(folder.resolve("Shown.java"), program);
            String classes = System.getProperty("java.class.path");
            int code = compiler.run(null, null, null, "-encoding", "UTF-8", "-classpath", classes, "-d",
                    folder.toString(), source.toString());
            if (code != 0) {
                tell("its calls do not compile");
                return;
            }
            URL[] where = {folder.toUri().toURL()};
            try (URLClassLoader loader = new URLClassLoader(where, ReadmeCalls.class.getClassLoader())) {
                Object answers = loader.loadClass("Shown").getMethod("run").invoke(null);
                for (Object line : (List<?>) answers) {
                    tell(line.toString());
                }
            }
        } finally {
            remove(folder);
        }
    }

    private static void remove(Path folder) throws IOException {
        try (Stream<Path> all = Files.walk(folder)) {
            all.sorted(Comparator.reverseOrder()).forEach(path -> {
                try {
                    Files.delete(path);
                } catch (IOException e) {
                    throw new UncheckedIOException(e);
                }
            });
        }
    }
}
