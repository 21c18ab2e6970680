import java.lang.reflect.Method;
import java.nio.charset.StandardCharsets;
import java.nio.file.Files;
import java.nio.file.Path;
import java.util.regex.Matcher;
import java.util.regex.Pattern;

/** README.md's example, line by line: each call must answer what the remark behind it begins with. Run from the project's folder. */
final class ReadmeTest {
    private static final Due due = new Due("ReadmeTest");
    private static final Pattern NEW = Pattern.compile("CrystalByTheMinute x = new CrystalByTheMinute\\(\\);");
    private static final Pattern FEED = Pattern.compile("for \\(char c : \"([^\"]*)\"\\.toCharArray\\(\\)\\) x\\.feed\\(c\\);");
    private static final Pattern CALL = Pattern.compile("x\\.(\\w+)\\(([-0-9, ]*)\\); +// (-?\\d+)\\b.*");

    public static void main(String[] args) throws Exception {
        String readme = Files.readString(Path.of("README.md"), StandardCharsets.UTF_8);
        Matcher block = Pattern.compile("(?s)```java\\n(.*?)```").matcher(readme);
        due.is("README.md has an example", block.find() ? 1 : 0, 1);
        CrystalByTheMinute x = null;
        for (String line : block.group(1).split("\n")) {
            Matcher feed = FEED.matcher(line);
            Matcher call = CALL.matcher(line);
            if (NEW.matcher(line).matches()) {
                x = new CrystalByTheMinute();
            } else if (feed.matches()) {
                Due.feed(x, feed.group(1));
            } else if (call.matches()) {
                due.is(line, answer(x, call.group(1), call.group(2)), Long.parseLong(call.group(3)));
            } else {
                due.is("'" + line + "' can't be run", line.isBlank() ? 1 : 0, 1);
            }
        }
        due.end();
    }

    private static long answer(CrystalByTheMinute x, String name, String list) throws Exception {
        String[] words = list.isBlank() ? new String[0] : list.split(",");
        Object[] numbers = new Object[words.length];
        for (int i = 0; i < words.length; i++) {
            numbers[i] = Integer.parseInt(words[i].trim());
        }
        for (Method m : CrystalByTheMinute.class.getMethods()) {
            if (m.getName().equals(name) && m.getParameterCount() == numbers.length) {
                return ((Number) m.invoke(x, numbers)).longValue();
            }
        }
        throw new IllegalStateException("no such call: " + name);
    }
}
