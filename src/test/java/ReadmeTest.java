import java.lang.reflect.Method;
import java.nio.file.Files;
import java.nio.file.Path;
import java.util.regex.Matcher;
import java.util.regex.Pattern;

/** README.md: the calls that it shows answer as it says, and its table tells the findings. */
public final class ReadmeTest {
    private static final Due due = new Due();

    public static void main(String[] args) throws Exception {
        String readme = Files.readString(Path.of("README.md"));
        calls(block(readme, "java"));
        findings(readme);
        text(block(readme, "text"));
        due.end();
    }

    private static String block(String readme, String language) {
        Matcher block = Pattern.compile("```" + language + "\n(.*?)```", Pattern.DOTALL).matcher(readme);
        boolean found = block.find();
        due.holds("a block of " + language, found);
        return found ? block.group(1) : "";
    }

    private static void calls(String example) throws Exception {
        BathBorder x = new BathBorder();
        String[] lines = example.split("\n");
        due.holds("an object is made", lines[0].equals("BathBorder x = new BathBorder();"));
        for (int i = 1; i < lines.length; i++) {
            Matcher call = Pattern.compile("x\\.(\\w+)\\((.*?)\\); +// (-?\\d+)\\b.*").matcher(lines[i]);
            boolean isCall = call.matches();
            due.holds("a call and its answer: " + lines[i], isCall);
            if (isCall) {
                due.is(lines[i], Long.parseLong(call.group(3)), answer(x, call.group(1), call.group(2)));
            }
        }
        due.holds("some calls", lines.length > 5);
    }

    private static long answer(BathBorder x, String name, String list) throws Exception {
        String[] parts = list.isEmpty() ? new String[0] : list.split(", ");
        Class<?>[] types = new Class<?>[parts.length];
        Object[] numbers = new Object[parts.length];
        for (int i = 0; i < parts.length; i++) {
            types[i] = int.class;
            numbers[i] = Integer.decode(parts[i]);
        }
        Method act = BathBorder.class.getMethod(name, types);
        return ((Number) act.invoke(x, numbers)).longValue();
    }

    private static void findings(String readme) {
        String[] names = {"BEYOND", "FULL", "KIND", "NONE", "STATE", "MISSING", "SIZE"};
        for (int i = 0; i < names.length; i++) {
            String row = "| " + names[i] + " | " + (Due.BEYOND - i) + " | " + i + " |";
            due.holds("the table has " + row, readme.contains(row));
        }
    }

    private static void text(String text) {
        String line = text.strip();
        due.is("the text's items", line.split(";").length, Due.text(new BathBorder(), line));
    }
}
