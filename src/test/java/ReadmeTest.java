import java.nio.charset.StandardCharsets;
import java.nio.file.Files;
import java.nio.file.Path;
import java.util.regex.Matcher;
import java.util.regex.Pattern;

/** The calls that README.md tells, one behind the other, answer what it says. */
public final class ReadmeTest {
    private static final Pattern CALL = Pattern.compile("(?m)^bag\\.(\\w+)\\(([^)]*)\\); +// ([-\\w]+)(?::.*)?$");

    public static void main(String[] args) throws Exception {
        String readme = Files.readString(Path.of("README.md"), StandardCharsets.UTF_8);
        Calls bag = Calls.ofClass();
        Matcher call = CALL.matcher(readme);
        int found = 0;
        while (call.find()) {
            found++;
            int[] numbers = numbers(call.group(2));
            int want = answer(call.group(3));
            Due.due(Calls.told(call.group(1), numbers), bag.call(call.group(1), numbers), want);
        }
        Due.due("calls in README.md", found, readme.split("\nbag\\.", -1).length - 1);
        Due.holds("README.md tells some calls", found > 0);
        Due.end();
    }

    private static int[] numbers(String list) {
        String[] words = list.isEmpty() ? new String[0] : list.split(", ");
        int[] numbers = new int[words.length];
        for (int i = 0; i < words.length; i++) {
            numbers[i] = Integer.decode(words[i]);
        }
        return numbers;
    }

    private static int answer(String word) throws ReflectiveOperationException {
        return word.matches("[A-Z]+") ? RoadSorted.class.getField(word).getInt(null) : Integer.parseInt(word);
    }
}
