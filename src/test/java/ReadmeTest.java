import java.io.IOException;
import java.nio.file.Files;
import java.nio.file.Path;
import java.util.regex.Matcher;
import java.util.regex.Pattern;

/** README.md: each call of its example has the answer that stands behind it. */
public final class ReadmeTest {
    private static final Check CHECK = new Check("ReadmeTest");
    private static final Pattern CALL = Pattern.compile("(?m)^move\\.(\\w+)\\((.*)\\);\\s*// (-?\\w+).*$");

    public static void main(String[] args) throws IOException {
        String text = Files.readString(Path.of("README.md"));
        String example = text.substring(text.indexOf("```java"), text.indexOf("```\n", text.indexOf("```java")));
        MastMove move = new MastMove();
        int calls = 0;
        Matcher call = CALL.matcher(example);
        while (call.find()) {
            calls++;
            CHECK.due(call.group(), FuzzTest.ask(move, call.group(1), numbers(call.group(2))), number(call.group(3)));
        }
        CHECK.due("calls with an answer", calls, example.split("\nmove\\.").length - 1);
        CHECK.finish();
    }

    private static long[] numbers(String list) {
        String[] parts = list.isEmpty() ? new String[0] : list.split(", ");
        long[] numbers = new long[parts.length];
        for (int i = 0; i < parts.length; i++) {
            numbers[i] = number(parts[i]);
        }
        return numbers;
    }

    private static long number(String text) {
        switch (text) {
            case "true": return 1;
            case "false": return 0;
            case "MastMove.NONE": return MastMove.NONE;
            default: return Long.decode(text.replace("L", ""));
        }
    }
}
