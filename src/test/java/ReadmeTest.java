import java.io.ByteArrayOutputStream;
import java.io.IOException;
import java.io.PrintStream;
import java.lang.reflect.Method;
import java.nio.file.Files;
import java.nio.file.Path;
import java.util.regex.Matcher;
import java.util.regex.Pattern;

/** README.md shows the Example as it stands, says what it prints, and names every call of the class. */
final class ReadmeTest {
    private static final Check CHECK = new Check("ReadmeTest");

    public static void main(String[] args) throws IOException {
        String readme = Files.readString(Path.of("README.md"));
        CHECK.due("the example", Files.readString(Path.of("src/test/java/Example.java")), block(readme, "java"));
        CHECK.due("what it prints", block(readme, "text"), printed());
        for (Method m : AdMarketplace.class.getMethods()) {
            if (m.getDeclaringClass() == AdMarketplace.class) {
                CHECK.due("README.md names " + m.getName(), true, readme.contains("`" + m.getName() + "`"));
            }
        }
        CHECK.end();
    }

    private static String block(String readme, String sort) {
        Matcher m = Pattern.compile("(?s)```" + sort + "\n(.*?)```\n").matcher(readme);
        return m.find() ? m.group(1) : "no " + sort;
    }

    private static String printed() {
        PrintStream usual = System.out;
        ByteArrayOutputStream caught = new ByteArrayOutputStream();
        System.setOut(new PrintStream(caught, true));
        try {
            Example.main(new String[0]);
        } finally {
            System.setOut(usual);
        }
        return caught.toString().replace("\r\n", "\n");
    }
}
