import java.io.ByteArrayOutputStream;
import java.io.IOException;
import java.io.PrintStream;
import java.lang.reflect.Method;
import java.lang.reflect.Modifier;
import java.net.URL;
import java.net.URLClassLoader;
import java.nio.file.Files;
import java.nio.file.Path;
import java.util.List;
import java.util.regex.Matcher;
import java.util.regex.Pattern;
import javax.tools.ToolProvider;

/** README.md's program is compiled as it stands and answers what its comments say; no call of the face is missing there. */
public final class ReadmeTest {
    private static final Check CHECK = new Check("ReadmeTest");

    public static void main(String[] args) throws IOException, ReflectiveOperationException {
        String page = Files.readString(Path.of("README.md"));
        tellsEveryCall(page);
        Matcher block = Pattern.compile("(?s)```java\n(.*?)```").matcher(page);
        CHECK.yes("README.md has a program", () -> block.find() ? 1 : 0);
        answersAsTold(block.group(1));
        CHECK.finish();
    }

    private static void tellsEveryCall(String page) {
        for (Method call : TasterTable.class.getDeclaredMethods()) {
            if (Modifier.isPublic(call.getModifiers())) {
                CHECK.yes("README.md tells " + call.getName(), () -> page.contains("`" + call.getName() + "(") ? 1 : 0);
            }
        }
    }

    private static void answersAsTold(String program) throws IOException, ReflectiveOperationException {
        Matcher call = Pattern.compile("println\\((.*)\\); +// ([-\\w]+): ").matcher(program);
        List<String> answers = linesPrinted(program);
        int line = 0;
        while (call.find()) {
            String answer = line < answers.size() ? answers.get(line) : "nothing";
            String due = call.group(2);
            CHECK.yes(call.group(1) + " in README.md, which prints " + answer, () -> answer.equals(due) ? 1 : 0);
            line++;
        }
        int told = line;
        CHECK.same("lines that README.md's program prints", told, answers::size);
    }

    private static List<String> linesPrinted(String program) throws IOException, ReflectiveOperationException {
        Path folder = Files.createTempDirectory("readme");
        Path source = folder.resolve("Feast.java");
        Files.writeString(source, program);
        int failed = ToolProvider.getSystemJavaCompiler().run(null, null, null, "-Xlint:all", "-Werror", "-cp",
                System.getProperty("java.class.path"), "-d", folder.toString(), source.toString());
        CHECK.same("README.md's program compiles", 0, () -> failed);
        PrintStream before = System.out;
        ByteArrayOutputStream printed = new ByteArrayOutputStream();
        try (URLClassLoader loader = new URLClassLoader(new URL[] {folder.toUri().toURL()});
                PrintStream kept = new PrintStream(printed)) {
            System.setOut(kept);
            loader.loadClass("Feast").getMethod("main", String[].class).invoke(null, (Object) new String[0]);
        } finally {
            System.setOut(before);
            for (String name : new String[] {"Feast.java", "Feast.class", ""}) {
                Files.deleteIfExists(folder.resolve(name));
            }
        }
        return printed.toString().lines().toList();
    }
}
