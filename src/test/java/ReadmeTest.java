import java.io.ByteArrayOutputStream;
import java.io.IOException;
import java.io.PrintStream;
import java.lang.reflect.Method;
import java.lang.reflect.Modifier;
import java.net.URL;
import java.net.URLClassLoader;
import java.nio.charset.StandardCharsets;
import java.nio.file.DirectoryStream;
import java.nio.file.Files;
import java.nio.file.Path;
import java.util.Comparator;
import java.util.List;
import java.util.stream.Stream;
import javax.tools.ToolProvider;

/** README.md is true: its program prints what it says, and all calls, STATUS numbers, FAULTS and tests are named. */
public final class ReadmeTest {
    private static final Check CHECK = new Check("ReadmeTest");

    public static void main(String[] args) throws IOException, ReflectiveOperationException {
        String page = Files.readString(Path.of("README.md")).replace("\r\n", "\n");
        theProgramPrintsWhatThePageSays(page);
        eachCallIsNamed(page);
        eachNumberHasARow(page, "| STATUS |", 0, 11);
        eachNumberHasARow(page, "| FAULT |", 1, 7);
        eachTestIsNamed(page);
        CHECK.end();
    }

    private static String block(String page, String kind) {
        String fence = "```" + kind + "\n";
        int from = page.indexOf(fence);
        int to = from < 0 ? -1 : page.indexOf("```", from + fence.length());
        CHECK.due("a block of " + kind + " is there", to >= 0, true);
        return to < 0 ? "" : page.substring(from + fence.length(), to);
    }

    private static void theProgramPrintsWhatThePageSays(String page) throws IOException, ReflectiveOperationException {
        Path folder = Files.createTempDirectory("readme");
        try {
            String[] got = printed(folder, block(page, "java")).split("\n");
            String[] want = block(page, "text").split("\n");
            CHECK.due("lines that the program prints", got.length, want.length);
            for (int i = 0; i < want.length && i < got.length; i++) {
                CHECK.due("printed: " + got[i] + ", told: " + want[i], got[i].equals(want[i]), true);
            }
        } finally {
            remove(folder);
        }
    }

    private static String printed(Path folder, String program) throws IOException, ReflectiveOperationException {
        Path file = folder.resolve("Example.java");
        Files.writeString(file, program);
        int wrong = ToolProvider.getSystemJavaCompiler().run(null, null, null, "-proc:none", "-classpath",
                System.getProperty("java.class.path"), "-d", folder.toString(), file.toString());
        CHECK.due("errors of the program", wrong, 0);
        if (wrong != 0) {
            return "";
        }
        ByteArrayOutputStream caught = new ByteArrayOutputStream();
        PrintStream old = System.out;
        try (URLClassLoader loader = new URLClassLoader(new URL[] {folder.toUri().toURL()});
                PrintStream catching = new PrintStream(caught, true, StandardCharsets.UTF_8)) {
            System.setOut(catching);
            loader.loadClass("Example").getMethod("main", String[].class).invoke(null, (Object) new String[0]);
        } finally {
            System.setOut(old);
        }
        return caught.toString(StandardCharsets.UTF_8).replace("\r\n", "\n");
    }

    private static void remove(Path folder) throws IOException {
        try (Stream<Path> all = Files.walk(folder)) {
            for (Path one : all.sorted(Comparator.reverseOrder()).toList()) {
                Files.delete(one);
            }
        }
    }

    private static String between(String page, String from, String to) {
        int start = page.indexOf(from);
        int end = start < 0 ? -1 : page.indexOf(to, start + from.length());
        CHECK.due("the page has " + from, end >= 0, true);
        return end < 0 ? "" : page.substring(start, end);
    }

    private static void eachCallIsNamed(String page) {
        String calls = between(page, "### What is called", "### ");
        for (Method call : RainJury.class.getDeclaredMethods()) {
            if (Modifier.isPublic(call.getModifiers())) {
                CHECK.due(call.getName() + " is named", calls.contains("`" + call.getName() + "`"), true);
            }
        }
    }

    private static void eachNumberHasARow(String page, String head, int least, int most) {
        List<String> rows = between(page, head, "\n\n").lines().skip(2).toList();
        CHECK.due("rows of " + head, rows.size(), most - least + 1);
        for (int i = 0; i < rows.size(); i++) {
            CHECK.due(rows.get(i), rows.get(i).startsWith("| " + (least + i) + " | "), true);
        }
    }

    private static void eachTestIsNamed(String page) throws IOException {
        try (DirectoryStream<Path> tests = Files.newDirectoryStream(Path.of("src/test/java"), "*Test.java")) {
            for (Path test : tests) {
                String name = test.getFileName().toString().replace(".java", "");
                CHECK.due(name + " is named", page.contains("`" + name + "`"), true);
            }
        }
    }
}
