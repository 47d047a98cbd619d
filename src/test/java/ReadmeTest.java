import java.io.ByteArrayOutputStream;
import java.io.IOException;
import java.io.PrintStream;
import java.lang.reflect.Field;
import java.lang.reflect.Method;
import java.lang.reflect.Modifier;
import java.nio.charset.StandardCharsets;
import java.nio.file.Files;
import java.nio.file.Path;

/** What README.md shows of the class: its example, what that prints, the methods and the error codes. */
final class ReadmeTest {
    private ReadmeTest() {
    }

    static void run() throws IOException, IllegalAccessException {
        String readme = Files.readString(Path.of("README.md"));
        Check.dueText("the example in the README", Files.readString(Path.of("src/test/java/Example.java")),
                block(readme, "```java\n"));
        Check.dueText("what the example prints", printedByExample(), block(readme, "```text\n"));
        face(readme);
    }

    private static String block(String readme, String begin) {
        int from = readme.indexOf(begin);
        int to = from < 0 ? -1 : readme.indexOf("```", from + begin.length());
        return to < 0 ? "no block" : readme.substring(from + begin.length(), to);
    }

    private static String printedByExample() {
        ByteArrayOutputStream bytes = new ByteArrayOutputStream();
        PrintStream before = System.out;
        System.setOut(new PrintStream(bytes, true, StandardCharsets.US_ASCII));
        Example.main(new String[0]);
        System.setOut(before);
        return bytes.toString(StandardCharsets.US_ASCII).replace("\r\n", "\n");
    }

    private static void face(String readme) throws IllegalAccessException {
        for (Method method : LampRelay.class.getDeclaredMethods()) {
            if (Modifier.isPublic(method.getModifiers())) {
                Check.due("the README tells of " + method.getName(), true,
                        readme.contains("`" + method.getName() + "("));
            }
        }
        for (Field field : LampRelay.class.getFields()) {
            String row = "| `" + field.getName() + "` | " + field.getInt(null) + " |";
            Check.due("the README has " + row, true, readme.contains(row));
        }
    }
}
