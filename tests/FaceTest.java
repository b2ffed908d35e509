import java.io.IOException;
import java.lang.reflect.Constructor;
import java.lang.reflect.Field;
import java.lang.reflect.Method;
import java.lang.reflect.Modifier;
import java.nio.file.Files;
import java.nio.file.Path;
import java.util.Arrays;
import java.util.TreeSet;
import java.util.regex.Matcher;
import java.util.regex.Pattern;

/** The class has the face of the document, name by name, and no more; its text keeps to LANGUAGE.md where a test can see it. */
public final class FaceTest {
    private static String signature(Method m) {
        StringBuilder s = new StringBuilder(m.getReturnType().getName()).append(' ').append(m.getName()).append('(');
        for (Class<?> c : m.getParameterTypes()) s.append(c.getName()).append(' ');
        s.append(')');
        for (Class<?> c : m.getExceptionTypes()) s.append(' ').append(c.getSimpleName());
        return s.toString();
    }

    /** The declarations between the lines of java in the document. */
    private static TreeSet<String> promised(String document) {
        TreeSet<String> found = new TreeSet<>();
        String face = document.substring(document.indexOf("```java"), document.indexOf("## Terms"));
        Matcher m = Pattern.compile("public (\\w+) (\\w+)\\(([^)]*)\\)( throws ([\\w, ]+))?;").matcher(face);
        while (m.find()) {
            StringBuilder s = new StringBuilder(m.group(1)).append(' ').append(m.group(2)).append('(');
            if (!m.group(3).isEmpty()) for (String p : m.group(3).split(", ")) s.append(p.split(" ")[0]).append(' ');
            s.append(')');
            if (m.group(5) != null) for (String e : m.group(5).split(", ")) s.append(' ').append(e);
            found.add(s.toString());
        }
        return found;
    }

    private static void face(String document) {
        TreeSet<String> declared = new TreeSet<>();
        TreeSet<String> publicNames = new TreeSet<>();
        for (Method m : TripleTrains.class.getDeclaredMethods()) {
            if (m.isSynthetic()) continue;
            if (Modifier.isPublic(m.getModifiers())) {
                declared.add(signature(m));
                publicNames.add(m.getName());
            } else {
                Check.due("private: " + m.getName(), true, Modifier.isPrivate(m.getModifiers()));
            }
        }
        Check.due("the face", promised(document), declared);
        Check.due("as many methods as promises without the constructor", 63, declared.size());
        for (Class<?> inside : TripleTrains.class.getDeclaredClasses()) {
            Check.due("static: " + inside.getSimpleName(), true, Modifier.isStatic(inside.getModifiers()));
            Check.due("not public: " + inside.getSimpleName(), false, Modifier.isPublic(inside.getModifiers()));
            for (Method m : inside.getDeclaredMethods())
                Check.due("a name apart from the face: " + m.getName(), false, publicNames.contains(m.getName()));
            Check.due("fields of " + inside.getSimpleName(), true, countFields(inside) <= 20);
        }
        for (Method m : TripleTrains.class.getDeclaredMethods())
            if (Modifier.isPrivate(m.getModifiers()))
                Check.due("a private name apart: " + m.getName(), false, publicNames.contains(m.getName()));
        Check.due("classes", true, TripleTrains.class.getDeclaredClasses().length <= 11);
        Check.due("fields", true, countFields(TripleTrains.class) <= 20);
    }

    private static int countFields(Class<?> c) {
        int n = 0;
        for (Field f : c.getDeclaredFields()) if (!Modifier.isStatic(f.getModifiers())) n++;
        return n;
    }

    private static void members() {
        TreeSet<String> constants = new TreeSet<>();
        for (Field f : TripleTrains.class.getDeclaredFields()) {
            int mod = f.getModifiers();
            if (Modifier.isPublic(mod)) constants.add(f.getName());
            else Check.due("private: " + f.getName(), true, Modifier.isPrivate(mod));
            if (Modifier.isStatic(mod)) Check.due("final: " + f.getName(), true, Modifier.isFinal(mod));
        }
        Check.due("constants", new TreeSet<>(Arrays.asList("NO_ERROR", "SYNTAX", "OUT_OF_RANGE", "COVERED")), constants);
        Constructor<?>[] made = TripleTrains.class.getDeclaredConstructors();
        Check.due("constructors", 1, made.length);
        Check.due("public and final", Modifier.PUBLIC | Modifier.FINAL, TripleTrains.class.getModifiers());
    }

    private static void text(String source) {
        String bare = source.replaceAll("(?s)/\\*.*?\\*/", "").replaceAll("//[^\n]*", "")
            .replaceAll("\"[^\"\n]*\"", "\"\"");
        String[] ruledOut = {"->", "::", "\\bassert\\b", "\\bfinally\\b", "\\bsynchronized\\b", "\\btry\\b", "\\bcatch\\b",
            "\\binstanceof\\b", "\\bObject\\b", "Exact\\b", "\\bpackage\\b", "\\bSystem\\.(?!arraycopy)", "@", "\"\" \\+"};
        for (String rule : ruledOut)
            Check.due("ruled out: " + rule, false, Pattern.compile(rule).matcher(bare).find());
        Matcher imports = Pattern.compile("import [^;]*;").matcher(bare);
        while (imports.find()) Check.due("import", "import java.util.NoSuchElementException;", imports.group());
        Matcher thrown = Pattern.compile("throw new (\\w+)\\(").matcher(bare);
        while (thrown.find())
            Check.due("thrown: " + thrown.group(1), true, Arrays.asList("IllegalStateException",
                "IllegalArgumentException", "IndexOutOfBoundsException", "NoSuchElementException").contains(thrown.group(1)));
        Matcher made = Pattern.compile("(?m)^(.*)\\bnew (?!\\w+Exception)\\w+").matcher(bare);
        while (made.find())
            Check.due("made with the object: " + made.group().trim(), true,
                made.group().contains("private final") || made.group().contains("past[i] = new Snapshot"));
        for (String line : source.split("\n")) Check.due("width of " + line, true, line.length() <= 120);
    }

    public static void main(String[] args) throws IOException {
        String document = Files.readString(Path.of("../shared/DOC.md"));
        face(document);
        members();
        text(Files.readString(Path.of("src/main/java/TripleTrains.java")));
        Check.end();
    }
}
