import java.io.ByteArrayOutputStream;
import java.io.File;
import java.io.PrintStream;
import java.lang.reflect.Method;
import java.lang.reflect.Modifier;
import java.net.URL;
import java.net.URLClassLoader;
import java.nio.file.Files;
import java.nio.file.Path;
import java.util.Set;
import java.util.TreeSet;
import java.util.regex.Matcher;
import java.util.regex.Pattern;
import javax.tools.ToolProvider;

/** README.md: its program prints what it tells, each call stands in it, and each test stands in it and in .ci/run. */
public final class ReadmeTests {
    private static final Due due = new Due("ReadmeTests");

    /** Arguments: README.md, the script that runs the tests, the directory of the tests, that of the class. */
    public static void main(String[] args) throws Exception {
        String page = Files.readString(Path.of(args[0]));
        due.is(1, "what the program of README.md prints", printed(block(page, "java"), args[3]), block(page, "text"));
        callsStandThere(page);
        testsStandThere(page, Files.readString(Path.of(args[1])), new File(args[2]));
        due.end();
    }

    private static String block(String page, String kind) {
        Matcher m = Pattern.compile("(?s)```" + kind + "\n(.*?)```").matcher(page);
        return m.find() ? m.group(1) : "";
    }

    private static String printed(String program, String classes) throws Exception {
        Path directory = Files.createTempDirectory("readme");
        Path file = directory.resolve("Readme.java");
        Files.writeString(file, "public class Readme {\npublic static void main(String[] args) {\n" + program + "}\n}\n");
        int code = ToolProvider.getSystemJavaCompiler().run(null, null, null,
                "-cp", classes, "-d", directory.toString(), file.toString());
        due.is(1, "the program of README.md is compiled", code, 0);
        ByteArrayOutputStream text = new ByteArrayOutputStream();
        PrintStream screen = System.out;
        try (URLClassLoader loader = new URLClassLoader(new URL[] {directory.toUri().toURL()}, Heapkeep.class.getClassLoader())) {
            System.setOut(new PrintStream(text, true));
            loader.loadClass("Readme").getMethod("main", String[].class).invoke(null, (Object) new String[0]);
        } finally {
            System.setOut(screen);
            for (File each : directory.toFile().listFiles()) {
                each.delete();
            }
            directory.toFile().delete();
        }
        return text.toString().replace(System.lineSeparator(), "\n");
    }

    /** Each call with as many arguments as it has. */
    private static void callsStandThere(String page) {
        Set<String> told = new TreeSet<>();
        Matcher m = Pattern.compile("`(\\w+)\\(([\\w, ]*)\\)`").matcher(page);
        while (m.find()) {
            told.add(m.group(1) + " " + (m.group(2).isEmpty() ? 0 : m.group(2).split(",").length));
        }
        Set<String> there = new TreeSet<>();
        for (Method method : Heapkeep.class.getDeclaredMethods()) {
            if (Modifier.isPublic(method.getModifiers())) {
                there.add(method.getName() + " " + method.getParameterCount());
            }
        }
        due.is(1, "the calls that README.md tells", told, there);
    }

    private static void testsStandThere(String page, String script, File directory) throws Exception {
        int many = 0;
        for (File file : directory.listFiles()) {
            String name = file.getName().replace(".java", "");
            if (Files.readString(file.toPath()).contains("void main(")) {
                due.is(1, name + " is told by README.md", page.contains("`" + name), true);
                due.is(1, name + " is run by .ci/run", script.matches("(?s).*\nrun " + name + "\\b.*"), true);
                many++;
            }
        }
        due.is(1, "there are tests", many > 10, true);
    }
}
