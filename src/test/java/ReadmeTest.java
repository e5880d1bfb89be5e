import java.lang.reflect.Method;
import java.nio.file.Files;
import java.nio.file.Path;
import java.util.regex.Matcher;
import java.util.regex.Pattern;

/** The example of README.md: each call answers what stands behind it. */
public final class ReadmeTest {
    private static final Check check = new Check("ReadmeTest");
    private static final Pattern TYPED = Pattern.compile("for \\(char letter : \"([^\"]*)\"\\.toCharArray\\(\\)\\) x\\.type\\(letter\\);");
    private static final Pattern CALL = Pattern.compile("x\\.(\\w+)\\(([^)]*)\\);\\s*// (-?\\d+)\\b.*");

    public static void main(String[] args) throws Exception {
        String text = Files.readString(Path.of("README.md"));
        int from = text.indexOf("```java\n") + 8;
        NewsCow x = null;
        for (String line : text.substring(from, text.indexOf("```", from)).split("\n")) {
            if (line.equals("NewsCow x = new NewsCow();")) {
                x = new NewsCow();
            } else if (!line.isEmpty() && !line.startsWith("//")) {
                play(x, line);
            }
        }
        check.holds("there is an example", x != null);
        check.end();
    }

    private static void play(NewsCow x, String line) throws Exception {
        Matcher typed = TYPED.matcher(line);
        Matcher call = CALL.matcher(line);
        if (typed.matches()) {
            Check.type(x, typed.group(1));
        } else if (call.matches()) {
            check.due(line, answer(x, call.group(1), call.group(2)), Long.parseLong(call.group(3)));
        } else {
            check.holds("'" + line + "' is a call with its answer", false);
        }
    }

    private static long answer(NewsCow x, String name, String arguments) throws Exception {
        String[] words = arguments.isEmpty() ? new String[0] : arguments.split(", ");
        for (Method method : NewsCow.class.getMethods()) {
            Class<?>[] types = method.getParameterTypes();
            if (method.getName().equals(name) && types.length == words.length) {
                Object[] values = new Object[words.length];
                for (int k = 0; k < words.length; k++) {
                    long value = words[k].startsWith("'") ? words[k].charAt(1) : Long.parseLong(words[k]);
                    values[k] = types[k] == long.class ? (Object) value : (Object) (int) value;
                }
                return ((Number) method.invoke(x, values)).longValue();
            }
        }
        throw new IllegalArgumentException(name);
    }
}
