import java.io.IOException;
import java.nio.file.Files;
import java.nio.file.Path;
import java.util.regex.Matcher;
import java.util.regex.Pattern;

/** README.md: the calls of its example answer as it says, and it names every call of the face. */
public final class ReadmeTest extends Bench {
    public static void main(String[] args) throws IOException {
        String page = Files.readString(Path.of("README.md"));
        example(page);
        names(page);
        end();
    }

    private static void example(String page) {
        AskedFire club = new AskedFire();
        Matcher line = Pattern.compile("(?m)^club\\.(\\w+)\\(([^)]*)\\); +// (-?\\d+)").matcher(page);
        int calls = 0;
        while (line.find()) {
            due(line.group(), answer(club, line.group(1), numbers(line.group(2))), Long.parseLong(line.group(3)));
            calls++;
        }
        Matcher all = Pattern.compile("(?m)^club\\.").matcher(page);
        due("calls with an answer", calls, all.results().count());
    }

    private static Number[] numbers(String given) {
        if (given.isEmpty()) {
            return new Number[0];
        }
        String[] words = given.split(", ");
        Number[] numbers = new Number[words.length];
        for (int i = 0; i < words.length; i++) {
            boolean sign = words[i].startsWith("'");
            numbers[i] = sign ? words[i].charAt(1) : Long.parseLong(words[i]);
        }
        return numbers;
    }

    private static void names(String page) throws IOException {
        Matcher call = Pattern.compile("public (?:int|long) (\\w+)\\(")
            .matcher(Files.readString(Path.of("src/main/java/AskedFire.java")));
        while (call.find()) {
            due("README.md names " + call.group(1), page.contains("`" + call.group(1) + "`") ? 1 : 0, 1);
        }
    }
}
