import java.io.IOException;
import java.lang.reflect.Method;
import java.lang.reflect.Modifier;
import java.nio.charset.StandardCharsets;
import java.nio.file.DirectoryStream;
import java.nio.file.Files;
import java.nio.file.Path;
import java.util.regex.Matcher;
import java.util.regex.Pattern;

/** Every answer that README.md shows, and that it names every call and every test. */
public final class ReadmeTest {
    private static final Pattern CALL = Pattern.compile("x\\.(\\w+)\\(([^)]*)\\); +// (-?\\d+)(?:[:,].*)?");
    private static final String MADE = "HandbagLady x = new HandbagLady();";
    private static int wrong = 0;
    private static int shown = 0;

    public static void main(String[] args) throws Exception {
        String text = Files.readString(Path.of("README.md"), StandardCharsets.UTF_8);
        Matcher block = Pattern.compile("(?s)```java\n(.*?)```").matcher(text);
        while (block.find()) {
            answers(block.group(1));
        }
        must(shown > 0, "README.md shows no call");
        for (Method m : HandbagLady.class.getDeclaredMethods()) {
            if (Modifier.isPublic(m.getModifiers())) {
                must(text.contains("`" + m.getName() + "`"), "README.md does not name " + m.getName());
            }
        }
        tests(text);
        System.out.println(wrong == 0 ? "README.md shows " + shown + " answers, all as they are" : wrong + " things are wrong in README.md");
        if (wrong != 0) {
            System.exit(1);
        }
    }

    private static void must(boolean so, String what) {
        if (!so) {
            wrong++;
            System.out.println(what);
        }
    }

    private static void answers(String lines) throws Exception {
        HandbagLady x = null;
        for (String line : lines.split("\n")) {
            if (line.equals(MADE)) {
                x = new HandbagLady();
                continue;
            }
            Matcher call = CALL.matcher(line);
            if (x == null || !call.matches()) {
                must(false, "cannot be read: " + line);
                continue;
            }
            shown++;
            must(answer(x, call.group(1), call.group(2)) == Long.parseLong(call.group(3)), "is not so: " + line);
        }
    }

    private static long answer(HandbagLady x, String name, String told) throws Exception {
        String[] parts = told.isEmpty() ? new String[0] : told.split(", ");
        Class<?>[] types = new Class<?>[parts.length];
        Object[] with = new Object[parts.length];
        for (int k = 0; k < parts.length; k++) {
            types[k] = int.class;
            with[k] = parts[k].matches("'.'") ? parts[k].charAt(1) : Integer.parseInt(parts[k]);
            if (with[k] instanceof Character letter) {
                with[k] = (int) letter;
            }
        }
        return ((Number) HandbagLady.class.getMethod(name, types).invoke(x, with)).longValue();
    }

    private static void tests(String text) throws IOException {
        try (DirectoryStream<Path> files = Files.newDirectoryStream(Path.of("src/test/java"), "*Test.java")) {
            for (Path file : files) {
                String name = file.getFileName().toString().replace(".java", "");
                must(text.contains("`" + name + "`"), "README.md does not name " + name);
            }
        }
    }
}
