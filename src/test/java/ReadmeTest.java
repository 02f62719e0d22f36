import java.io.IOException;
import java.lang.reflect.InvocationTargetException;
import java.lang.reflect.Method;
import java.nio.file.Files;
import java.nio.file.Path;
import java.util.Set;
import java.util.TreeSet;
import java.util.regex.Matcher;
import java.util.regex.Pattern;

/** Each call that README.md shows gives the answer that stands behind it, and none of the face goes without. */
public final class ReadmeTest {
    private static final Due due = new Due("ReadmeTest");
    private static final Path README = Path.of("README.md");
    private static final Path SELF = Path.of("src/test/java/ReadmeTest.java");
    private static final Pattern CALL = Pattern.compile("x\\.(\\w+)\\(([^)]*)\\); *// (throws \\w+|true|false|-?\\d+)(:.*)?");
    private static final Pattern TEXT = Pattern.compile("put\\(x, \"([^\"]*)\"\\);");
    private static final String NEW = "SistersBoard x = new SistersBoard();";

    public static void main(String[] args) throws Exception {
        String readme = Files.readString(README);
        helperStands(readme);
        Set<String> shown = run(readme);
        due.is("rows with an answer", shown.size() > 0, true);
        for (Method m : SistersBoard.class.getDeclaredMethods()) {
            if ((m.getModifiers() & 1) != 0) {
                due.is(m.getName() + " is told of", readme.contains("`" + m.getName() + "("), true);
            }
        }
        due.close();
    }

    /** What README.md tells to copy is what the rows are run by. */
    private static void helperStands(String readme) throws IOException {
        String self = Files.readString(SELF).replaceAll("\\s+", " ");
        Matcher helper = Pattern.compile("(?s)```java\n(static void put.*?)```").matcher(readme);
        due.is("a helper is told", helper.find(), true);
        due.is("it is the one here", self.contains(helper.group(1).replaceAll("\\s+", " ").trim()), true);
    }

    private static Set<String> run(String readme) throws Exception {
        Set<String> shown = new TreeSet<>();
        SistersBoard x = new SistersBoard();
        Matcher blocks = Pattern.compile("(?s)```java\n(.*?)```").matcher(readme);
        while (blocks.find()) {
            if (blocks.group(1).startsWith("static")) {
                continue;
            }
            for (String row : blocks.group(1).split("\n")) {
                Matcher call = CALL.matcher(row);
                Matcher text = TEXT.matcher(row);
                if (row.equals(NEW)) {
                    x = new SistersBoard();
                } else if (text.matches()) {
                    put(x, text.group(1));
                } else if (call.matches()) {
                    shown.add(call.group(1));
                    String answer = answer(x, call.group(1), call.group(2));
                    due.is(row + " (" + answer + ")", answer.equals(call.group(3)), true);
                } else {
                    due.is("a row that can be read: " + row, false, true);
                }
            }
        }
        return shown;
    }

    private static String answer(SistersBoard x, String name, String told) throws Exception {
        String[] words = told.isEmpty() ? new String[0] : told.split(", ");
        Class<?>[] types = new Class<?>[words.length];
        Object[] numbers = new Object[words.length];
        for (int i = 0; i < words.length; i++) {
            types[i] = int.class;
            numbers[i] = Long.decode(words[i]).intValue();
        }
        try {
            return String.valueOf(SistersBoard.class.getMethod(name, types).invoke(x, numbers));
        } catch (InvocationTargetException e) {
            return "throws " + e.getCause().getClass().getSimpleName();
        }
    }

    /** As README.md tells it. */
    static void put(SistersBoard x, String text) {
        for (int from = 0; from < text.length(); from += 20) {
            int[] five = new int[5];
            for (int i = 0; i < 20 && from + i < text.length(); i++) {
                five[i / 4] |= text.charAt(from + i) << (24 - 8 * (i % 4));
            }
            x.feed(five[0], five[1], five[2], five[3], five[4]);
        }
        x.end(text.length());
    }
}
