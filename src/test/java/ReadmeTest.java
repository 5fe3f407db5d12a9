import java.io.IOException;
import java.lang.reflect.Method;
import java.lang.reflect.Modifier;
import java.nio.file.Files;
import java.nio.file.Path;
import java.util.Arrays;
import java.util.List;
import java.util.regex.Matcher;
import java.util.regex.Pattern;
import java.util.stream.Stream;

/** README.md says what stands: its example answers so, its calls and its tests are all that there are. */
public final class ReadmeTest {
    private static final Pattern TYPED = Pattern.compile("\"(.*)\"\\.toCharArray\\(\\)");
    private static final Pattern ASKED = Pattern.compile("(?m)^x\\.(\\w+)\\(([0-9, ]*)\\); +// (-?[0-9]+)\\b");

    public static void main(String[] args) throws Exception {
        Check.about("README.md");
        String text = Files.readString(Path.of("README.md"));
        example(text);
        for (Method m : RoomBorn.class.getDeclaredMethods()) {
            if (Modifier.isPublic(m.getModifiers())) {
                Check.yes("it says what " + m.getName() + "() is for", text.contains("`" + m.getName() + "`"));
            }
        }
        for (String test : tests()) {
            Check.yes("it names " + test, text.contains("`" + test + "`"));
        }
        Check.end();
    }

    private static void example(String text) throws Exception {
        Matcher typed = TYPED.matcher(text);
        Check.yes("it types a text", typed.find());
        RoomBorn x = new RoomBorn();
        Check.type(x, typed.group(1));
        Matcher asked = ASKED.matcher(text);
        int lines = 0;
        while (asked.find()) {
            lines++;
            Check.due("x." + asked.group(1) + "(" + asked.group(2) + ")", Long.parseLong(asked.group(3)),
                answer(x, asked.group(1), asked.group(2)));
        }
        Check.due("lines of the example", 7, lines);
    }

    private static long answer(RoomBorn x, String call, String numbers) throws Exception {
        Object[] given = numbers.isBlank() ? new Object[0] : Stream.of(numbers.split(", *")).map(Integer::valueOf).toArray();
        Class<?>[] types = new Class<?>[given.length];
        Arrays.fill(types, int.class);
        return ((Number) RoomBorn.class.getMethod(call, types).invoke(x, given)).longValue();
    }

    private static List<String> tests() throws IOException {
        try (Stream<Path> files = Files.list(Path.of("src/test/java"))) {
            return files.map(f -> f.getFileName().toString()).filter(f -> f.endsWith("Test.java"))
                .map(f -> f.replace(".java", "")).sorted().toList();
        }
    }
}
