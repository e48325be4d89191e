import java.io.IOException;
import java.nio.file.Files;
import java.nio.file.Path;
import java.util.Arrays;
import java.util.regex.Matcher;
import java.util.regex.Pattern;

/** The examples of README.md answer what stands behind them, and README.md names each call of the face. */
public final class ReadmeTest {
    private static final Pattern CALL = Pattern.compile("x\\.(\\w+)\\((.*)\\);(?: +// (-?\\w+(?: \\w+Exception)?).*)?");

    public static void main(String[] args) throws IOException {
        Due due = new Due("readme");
        Face face = new Face(FuseKinds.class);
        String text = Files.readString(Path.of("README.md"));
        boolean isExample = false;
        FuseKinds x = new FuseKinds();
        for (String line : text.split("\n")) {
            if (line.startsWith("```")) {
                isExample = line.equals("```java");
            } else if (isExample && line.equals("FuseKinds x = new FuseKinds();")) {
                x = new FuseKinds();
            } else if (isExample) {
                play(due, face, x, line);
            }
        }
        for (String name : face.methods().keySet()) {
            due.same("README.md names " + name, text.contains("`" + name + "`"), true);
        }
        due.end();
    }

    private static void play(Due due, Face face, FuseKinds x, String line) {
        Matcher matcher = CALL.matcher(line);
        if (!matcher.matches()) {
            throw new IllegalStateException("no example: " + line);
        }
        String answer = matcher.group(3) == null ? "void" : matcher.group(3).replace("throws ", "throws.");
        due.same(line, face.answer(x, matcher.group(1), numbersOf(matcher.group(2))), answer);
    }

    private static int[] numbersOf(String words) {
        if (words.isEmpty()) {
            return new int[0];
        }
        return Arrays.stream(words.split(", ")).mapToInt(word -> word.equals("FuseKinds.NONE") ? FuseKinds.NONE
            : Integer.decode(word)).toArray();
    }
}
