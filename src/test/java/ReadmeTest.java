import java.lang.reflect.Method;
import java.lang.reflect.Modifier;
import java.nio.file.Files;
import java.nio.file.Path;
import java.util.regex.Matcher;
import java.util.regex.Pattern;

/** README.md says how to use the class: its example must answer what it says, and it must name each call. */
public final class ReadmeTest {
    private static final Check check = new Check("ReadmeTest");
    private static final Pattern TEXT = Pattern.compile("String text = \"([^\"]*)\";");
    private static final Pattern CALL = Pattern.compile("^x\\.(\\w+)\\(([^)]*)\\); +// (-?\\d+)");

    public static void main(String[] args) throws Exception {
        String readme = Files.readString(Path.of("README.md"));
        example(readme);
        for (Method m : DollCongress.class.getDeclaredMethods()) {
            if (Modifier.isPublic(m.getModifiers())) {
                check.holds("README.md names " + m.getName(), readme.contains("`" + m.getName() + "("));
            }
        }
        check.holds("README.md says how the tests are run", readme.contains("\n    .ci/run\n"));
        check.end();
    }

    private static void example(String readme) throws Exception {
        DollCongress x = new DollCongress();
        Matcher text = TEXT.matcher(readme);
        check.holds("the example has a text", text.find());
        for (char letter : text.group(1).toCharArray()) {
            x.feed(letter);
        }
        int asked = 0;
        for (String line : readme.split("\n")) {
            Matcher m = CALL.matcher(line);
            if (m.find()) {
                check.due(line, answer(x, m.group(1), m.group(2)), Long.parseLong(m.group(3)));
                asked++;
            }
        }
        check.due("calls of the example", asked, 12);
    }

    private static int answer(DollCongress x, String name, String given) throws Exception {
        String[] words = given.isEmpty() ? new String[0] : given.split(", ");
        for (Method m : DollCongress.class.getMethods()) {
            if (m.getName().equals(name)) {
                Object[] values = new Object[words.length];
                for (int i = 0; i < words.length; i++) {
                    boolean isTruth = m.getParameterTypes()[i] == boolean.class;
                    values[i] = isTruth ? (Object) Boolean.valueOf(words[i]) : (Object) Integer.valueOf(words[i]);
                }
                return (Integer) m.invoke(x, values);
            }
        }
        return DollCongress.UNKNOWN;
    }
}
