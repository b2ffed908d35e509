import java.io.ByteArrayOutputStream;
import java.io.IOException;
import java.io.PrintStream;
import java.net.URL;
import java.net.URLClassLoader;
import java.nio.file.Files;
import java.nio.file.Path;
import java.util.ArrayList;
import java.util.Comparator;
import java.util.List;
import java.util.TreeSet;
import java.util.regex.Matcher;
import java.util.regex.Pattern;
import java.util.stream.Stream;
import javax.tools.ToolProvider;

/** What README.md says of the use is so: its program prints the answers behind its lines, and its changes are those of the document. */
public final class ReadmeTest {
    private static String between(String text, String begin, String end) {
        int from = text.indexOf(begin) + begin.length();
        return text.substring(from, text.indexOf(end, from));
    }

    /** The first word of the comment behind each line that prints. */
    private static List<String> answersTold(String program) {
        List<String> told = new ArrayList<>();
        Matcher line = Pattern.compile("println\\(.*\\); *// ([\\w-]+)").matcher(program);
        while (line.find()) told.add(line.group(1));
        return told;
    }

    private static List<String> answersPrinted(String program) throws Exception {
        Path folder = Files.createTempDirectory("readme");
        try {
            Path file = Files.writeString(folder.resolve("Example.java"), program);
            int failed = ToolProvider.getSystemJavaCompiler().run(null, null, null,
                "-cp", System.getProperty("java.class.path"), "-d", folder.toString(), file.toString());
            return failed == 0 ? run(folder) : List.of("does not compile");
        } finally {
            delete(folder);
        }
    }

    private static List<String> run(Path folder) throws Exception {
        PrintStream before = System.out;
        ByteArrayOutputStream printed = new ByteArrayOutputStream();
        try (URLClassLoader loader = new URLClassLoader(new URL[] {folder.toUri().toURL()})) {
            System.setOut(new PrintStream(printed, true));
            loader.loadClass("Example").getMethod("main", String[].class).invoke(null, (Object) new String[0]);
        } finally {
            System.setOut(before);
        }
        return printed.toString().lines().toList();
    }

    private static void delete(Path folder) throws IOException {
        try (Stream<Path> all = Files.walk(folder)) {
            for (Path path : all.sorted(Comparator.reverseOrder()).toList()) Files.delete(path);
        }
    }

    private static TreeSet<String> namesIn(String sentence) {
        TreeSet<String> names = new TreeSet<>();
        Matcher name = Pattern.compile("`(\\w+)`").matcher(sentence);
        while (name.find()) names.add(name.group(1));
        return names;
    }

    /** The methods whose description says that they are changes. */
    private static TreeSet<String> changes(String document) {
        TreeSet<String> names = new TreeSet<>();
        for (String promise : document.split("\n## "))
            if (promise.startsWith("Promise") && Pattern.compile("This is (a|one) change\\.").matcher(promise).find())
                names.add(between(promise, ": ", "\n"));
        return names;
    }

    public static void main(String[] args) throws Exception {
        String readme = Files.readString(Path.of("README.md"));
        String program = between(readme, "```java\n", "```");
        Check.due("answers in the program of README.md", true, answersTold(program).size() > 10);
        Check.due("the program of README.md", answersTold(program), answersPrinted(program));
        String document = Files.readString(Path.of("../shared/DOC.md"));
        Check.due("the changes in README.md", changes(document), namesIn(between(readme, "- Changes are ", ". `undo`")));
        Check.end();
    }
}
