import java.io.ByteArrayOutputStream;
import java.io.IOException;
import java.io.PrintStream;
import java.lang.reflect.Method;
import java.lang.reflect.Modifier;
import java.net.URL;
import java.net.URLClassLoader;
import java.nio.charset.StandardCharsets;
import java.nio.file.Files;
import java.nio.file.Path;
import java.util.List;
import java.util.regex.Matcher;
import java.util.regex.Pattern;
import java.util.stream.Collectors;
import java.util.stream.Stream;
import javax.tools.ToolProvider;

/** README.md: its program prints what it says, and no call, test or class is missing there. */
public final class MailWordsReadme {
    private static int wrong = 0;

    private static void due(boolean right, String what) {
        if (!right) {
            wrong++;
            System.out.println("not as due: " + what);
        }
    }

    private static String block(String readme, String kind) {
        Matcher m = Pattern.compile("(?s)```" + kind + "\n(.*?)```").matcher(readme);
        boolean found = m.find();
        due(found, "README.md has a block of " + kind);
        return found ? m.group(1) : "";
    }

    private static List<String> javaNames(Path folder) throws IOException {
        try (Stream<Path> files = Files.list(folder)) {
            return files.map(file -> file.getFileName().toString()).filter(name -> name.endsWith(".java"))
                .map(name -> name.substring(0, name.length() - 5)).sorted().collect(Collectors.toList());
        }
    }

    /** What the program prints, or how far it came. */
    private static String run(String program, Path folder) throws Exception {
        Path file = folder.resolve("Example.java");
        Files.writeString(file, program);
        int failed = ToolProvider.getSystemJavaCompiler().run(null, null, null,
            "-cp", System.getProperty("java.class.path"), "-d", folder.toString(), file.toString());
        if (failed != 0) {
            return "it does not compile";
        }
        ByteArrayOutputStream printed = new ByteArrayOutputStream();
        PrintStream before = System.out;
        try (URLClassLoader loader = new URLClassLoader(new URL[] {folder.toUri().toURL()})) {
            System.setOut(new PrintStream(printed, true, StandardCharsets.UTF_8));
            loader.loadClass("Example").getMethod("main", String[].class).invoke(null, (Object) new String[0]);
        } finally {
            System.setOut(before);
        }
        return printed.toString(StandardCharsets.UTF_8).replace(System.lineSeparator(), "\n");
    }

    private static void runProgram(String readme) throws Exception {
        Path folder = Files.createTempDirectory("readme");
        try {
            String printed = run(block(readme, "java"), folder);
            due(printed.equals(block(readme, "text")), "the program prints\n" + printed);
        } finally {
            for (String name : new String[] {"Example.java", "Example.class"}) {
                Files.deleteIfExists(folder.resolve(name));
            }
            Files.delete(folder);
        }
    }

    private static void lookForNames(String readme) throws IOException {
        for (Method m : MailWords.class.getDeclaredMethods()) {
            if (Modifier.isPublic(m.getModifiers())) {
                due(readme.contains("\n| `" + m.getName() + "("), "a row for the call " + m.getName());
            }
        }
        for (Class<?> c : MailWords.class.getDeclaredClasses()) {
            due(readme.contains("`" + c.getSimpleName() + "`"), "what the class " + c.getSimpleName() + " is");
        }
        for (String test : javaNames(Path.of("src/test/java"))) {
            due(readme.contains("\n| `" + test + "` |"), "a row for the test " + test);
        }
        due(readme.contains("\n.ci/run\n"), "how to run the tests");
    }

    public static void main(String[] args) throws Exception {
        String readme = Files.readString(Path.of("README.md")).replace("\r\n", "\n");
        runProgram(readme);
        lookForNames(readme);
        System.out.println(wrong == 0 ? "README.md is as due" : wrong + " things of README.md are not as due");
        if (wrong != 0) {
            System.exit(1);
        }
    }
}
