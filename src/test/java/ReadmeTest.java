import java.io.ByteArrayOutputStream;
import java.io.IOException;
import java.io.PrintStream;
import java.nio.charset.StandardCharsets;
import java.nio.file.Files;
import java.nio.file.Path;

/** README.md has the program of Example.java as it stands there, and what it prints. */
final class ReadmeTest {
    private ReadmeTest() {
    }

    public static void main(String[] args) throws IOException {
        String readme = read("README.md");
        String example = read("src/test/java/Example.java");
        Kit.due("README.md has the program of Example.java", readme.contains("```java\n" + example + "```\n"), true);
        Kit.due("README.md has what it prints", readme.contains("```text\n" + printed() + "```\n"), true);
        for (java.lang.reflect.Method method : FixpointEngine.class.getDeclaredMethods()) {
            boolean open = java.lang.reflect.Modifier.isPublic(method.getModifiers());
            Kit.due("README.md tells " + method, !open || readme.contains("| `" + method.getName() + "("), true);
        }
        Kit.end();
    }

    private static String read(String path) throws IOException {
        return Files.readString(Path.of(path), StandardCharsets.UTF_8);
    }

    private static String printed() {
        PrintStream before = System.out;
        ByteArrayOutputStream bytes = new ByteArrayOutputStream();
        System.setOut(new PrintStream(bytes, true, StandardCharsets.UTF_8));
        Example.main(new String[0]);
        System.setOut(before);
        return bytes.toString(StandardCharsets.UTF_8).replace(System.lineSeparator(), "\n");
    }
}
