import java.lang.reflect.Method;
import java.nio.file.Files;
import java.nio.file.Path;
import java.util.List;
import java.util.regex.Matcher;
import java.util.regex.Pattern;

/**
 * Does the examples of README.md, so that what the page tells a user is what the class does: each call whose answer
 * stands behind it, and each text that is typed. A line of an example that is neither fails, too.
 */
public final class GiftPurposesReadmeTest {
    private static final Pattern CALL = Pattern.compile("x\\.(\\w+)\\(([-0-9, ]*)\\); +// (-?[0-9]+)(:.*)?");
    private static final Pattern TYPED =
            Pattern.compile("for \\(char sign : \"([^\"]*)\"\\.toCharArray\\(\\)\\) x\\.type\\(sign\\);");
    private static final String MADE = "GiftPurposes x = new GiftPurposes();";

    private static int right = 0;
    private static int wrong = 0;
    private static GiftPurposes x = null;

    public static void main(String[] args) throws Exception {
        List<String> lines = Files.readAllLines(Path.of("README.md"));
        boolean inExample = false;
        int examples = 0;
        for (String line : lines) {
            if (line.startsWith("```")) {
                inExample = line.equals("```java");
                examples += inExample ? 1 : 0;
            } else if (inExample) {
                doLine(line);
            }
        }
        // without examples nothing would have been shown
        note("there are two examples, of some calls each", examples == 2 && right > 30);
        System.out.println(right + " passed, " + wrong + " failed");
        System.exit(wrong == 0 ? 0 : 1);
    }

    private static void doLine(String line) throws Exception {
        Matcher call = CALL.matcher(line);
        Matcher typed = TYPED.matcher(line);
        if (line.equals(MADE)) {
            x = new GiftPurposes();
        } else if (typed.matches()) {
            for (char sign : typed.group(1).toCharArray()) {
                x.type(sign);
            }
        } else if (call.matches()) {
            int due = Integer.parseInt(call.group(3));
            int answer = answerOf(call.group(1), call.group(2));
            note(line + " answered " + answer, answer == due);
        } else {
            note("no call with an answer: " + line, false);
        }
    }

    private static int answerOf(String name, String arguments) throws Exception {
        String[] words = arguments.isEmpty() ? new String[0] : arguments.split(", ");
        Object[] values = new Object[words.length];
        Class<?>[] types = new Class<?>[words.length];
        for (int index = 0; index < words.length; index++) {
            values[index] = Integer.valueOf(words[index]);
            types[index] = int.class;
        }
        Method method = GiftPurposes.class.getMethod(name, types);
        return (int) method.invoke(x, values);
    }

    private static void note(String what, boolean holds) {
        if (holds) {
            right++;
        } else {
            wrong++;
            System.out.println(what);
        }
    }
}
