import java.io.File;
import java.io.IOException;
import java.net.URL;
import java.net.URLClassLoader;
import java.nio.charset.StandardCharsets;
import java.nio.file.Files;
import java.nio.file.Path;
import java.util.ArrayList;
import java.util.Comparator;
import java.util.List;
import java.util.regex.Matcher;
import java.util.regex.Pattern;
import java.util.stream.Stream;
import javax.tools.ToolProvider;

/** What README.md says of the use of the class: its Java is compiled as it stands there, and its answers are so. */
public final class ReadmeTest {

    private static final Pattern BLOCK = Pattern.compile("```java\\n(.*?)```", Pattern.DOTALL);
    private static final Pattern ASKED = Pattern.compile("(?m)^(x\\.(\\w+)\\(.*?\\)); +// ([^:\\n]+).*$");
    private static final String HEAD = "public final class Readme {\n";
    private static final String RUN = "public static void run(java.util.List<String> answers) {\n";

    private final Check check = new Check("ReadmeTest");
    private final String readme;
    private final List<String> asked = new ArrayList<>();
    private final List<String> due = new ArrayList<>();

    private ReadmeTest() throws IOException {
        readme = Files.readString(Path.of("README.md"), StandardCharsets.UTF_8);
    }

    public static void main(String[] args) throws Exception {
        ReadmeTest test = new ReadmeTest();
        test.example();
        test.names();
        test.check.end();
    }

    private void example() throws Exception {
        List<String> blocks = new ArrayList<>();
        Matcher block = BLOCK.matcher(readme);
        while (block.find()) {
            blocks.add(block.group(1));
        }
        check.due("blocks of Java", 2, blocks::size);
        Path folder = Files.createTempDirectory("readme");
        try {
            List<String> answers = answers(folder, HEAD + blocks.get(0) + RUN + asking(blocks.get(1)) + "}\n}\n");
            check.due("how many are answered", due.size(), answers::size);
            for (int i = 0; i < due.size(); i++) {
                String answer = answers.get(i);
                check.due(asked.get(i), due.get(i), () -> answer);
            }
        } finally {
            remove(folder);
        }
    }

    /** Each call that is told with an answer, so that its own answer is kept. */
    private String asking(String block) {
        Matcher call = ASKED.matcher(block);
        StringBuilder source = new StringBuilder();
        while (call.find()) {
            asked.add(call.group(1));
            due.add(call.group(3));
            call.appendReplacement(source, Matcher.quoteReplacement("answers.add(Check.outcome(() -> " + call.group(1) + "));"));
        }
        return call.appendTail(source).toString();
    }

    private static List<String> answers(Path folder, String source) throws Exception {
        Path file = Files.writeString(folder.resolve("Readme.java"), source);
        String own = System.getProperty("java.class.path");
        int failed = ToolProvider.getSystemJavaCompiler().run(null, null, null, "-cp", own, "-d", folder.toString(),
                file.toString());
        List<String> answers = new ArrayList<>();
        if (failed == 0) {
            URL[] places = {folder.toUri().toURL(), new File(own).toURI().toURL()};
            try (URLClassLoader loader = new URLClassLoader(places, null)) {
                loader.loadClass("Readme").getMethod("run", List.class).invoke(null, answers);
            }
        }
        return answers;
    }

    private static void remove(Path folder) throws IOException {
        try (Stream<Path> files = Files.walk(folder)) {
            for (Path file : files.sorted(Comparator.reverseOrder()).toList()) {
                Files.delete(file);
            }
        }
    }

    /** It names each call of the face, and each test. */
    private void names() throws IOException {
        for (var call : YearRope.class.getDeclaredMethods()) {
            if (java.lang.reflect.Modifier.isPublic(call.getModifiers())) {
                check.due("it names " + call.getName(), true, () -> readme.contains("`" + call.getName() + "`"));
            }
        }
        try (Stream<Path> files = Files.list(Path.of("src/test/java"))) {
            for (Path file : files.toList()) {
                String name = file.getFileName().toString().replace(".java", "");
                check.due("it names " + name, true, () -> !name.endsWith("Test") || readme.contains("`" + name + "`"));
            }
        }
    }
}
