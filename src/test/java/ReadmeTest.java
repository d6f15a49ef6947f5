import java.io.IOException;
import java.nio.file.Files;
import java.nio.file.Path;
import java.util.regex.Matcher;
import java.util.regex.Pattern;

/** README.md: what it shows is so, and it names each call. */
public final class ReadmeTest {
    private static final String[] NAMES = {"write", "wipe", "fault", "lay", "step", "younger", "pass", "put", "quarrel", "cats",
        "undo", "behind", "goes", "least", "round", "best", "help", "see", "forget", "within", "isCats", "was", "snows", "year",
        "keep", "back", "count"};
    private static final Pattern TEXT = Pattern.compile("for \\(char c : \"([^\"]*)\"");
    private static final Pattern SHOWN = Pattern.compile("milk\\.(\\w+)\\(([-0-9, ]*)\\); *// (-?\\d+)");

    public static void main(String[] args) throws IOException {
        String readme = Files.readString(Path.of("README.md"));
        shown(readme);
        named(readme);
        Due.end();
    }

    private static void shown(String readme) {
        Matcher text = TEXT.matcher(readme);
        Due.is("README.md shows a text", text.find() ? 1 : 0, 1);
        YoungerMilk milk = Due.write(new YoungerMilk(), text.group(1));
        Matcher call = SHOWN.matcher(readme);
        int calls = 0;
        while (call.find()) {
            int[] n = new int[4];
            String[] told = call.group(2).isBlank() ? new String[0] : call.group(2).split(", *");
            for (int i = 0; i < told.length; i++) {
                n[i] = Integer.parseInt(told[i]);
            }
            int answer = Calls.answer(milk, call.group(1), n[0], n[1], n[2], n[3]);
            Due.is("README.md: " + call.group(), answer, Integer.parseInt(call.group(3)));
            calls++;
        }
        Due.is("README.md shows calls with their answers", Math.min(calls, 10), 10);
    }

    private static void named(String readme) {
        for (String name : NAMES) {
            Due.is("README.md tells of " + name, readme.contains("| `" + name + "(") ? 1 : 0, 1);
        }
    }
}
