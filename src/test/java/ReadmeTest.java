import java.lang.reflect.InvocationTargetException;
import java.lang.reflect.Method;
import java.lang.reflect.Modifier;
import java.nio.file.Files;
import java.nio.file.Path;
import java.util.Arrays;
import java.util.regex.Matcher;
import java.util.regex.Pattern;

/** README.md tells the truth: its example is run line by line, and its table has every call of the face. */
public final class ReadmeTest {
    private static final Pattern MADE = Pattern.compile("BigLedger ledger = new BigLedger\\((.*?)\\); .*");
    /** The comment's first word is the answer. */
    private static final Pattern CALL = Pattern.compile("ledger\\.(\\w+)\\((.*?)\\);\\s+// (\\S+?):? .*");

    public static void main(String[] args) throws ReflectiveOperationException, java.io.IOException {
        String text = Files.readString(Path.of("README.md"));
        runExample(text.split("```java\n")[1].split("```")[0]);
        for (Method method : BigLedger.class.getDeclaredMethods()) {
            if (Modifier.isPublic(method.getModifiers())) {
                Matcher row = Pattern.compile("\n\\| `" + method.getName() + "\\((.*?)\\)` \\|").matcher(text);
                boolean found = row.find();
                Check.due("a row for " + method.getName(), found, true);
                Check.due("its parameters", found ? words(row.group(1)).length : -1, method.getParameterCount());
            }
        }
        Check.finish();
    }

    private static void runExample(String example) throws ReflectiveOperationException {
        BigLedger ledger = null;
        for (String line : example.split("\n")) {
            Matcher made = MADE.matcher(line);
            Matcher call = CALL.matcher(line);
            if (made.matches()) {
                Object[] sizes = numbers(made.group(1));
                ledger = new BigLedger((int) sizes[0], (int) sizes[1], (int) sizes[2]);
            } else if (call.matches()) {
                Object answer = answer(ledger, call.group(1), numbers(call.group(2)));
                if (answer != null) {
                    Check.due(line, answer.toString(), call.group(3));
                }
            } else {
                Check.due("a line that is not read", line, "");
            }
        }
    }

    /** What the call answers, or the name of what it throws; null, if it answers nothing. */
    private static Object answer(BigLedger ledger, String name, Object[] arguments) throws ReflectiveOperationException {
        Class<?>[] types = new Class<?>[arguments.length];
        Arrays.fill(types, int.class);
        try {
            return BigLedger.class.getMethod(name, types).invoke(ledger, arguments);
        } catch (InvocationTargetException e) {
            return e.getCause().getClass().getSimpleName();
        }
    }

    private static String[] words(String list) {
        return list.isEmpty() ? new String[0] : list.split(", ");
    }

    private static Object[] numbers(String list) {
        return Arrays.stream(words(list)).map(Integer::valueOf).toArray();
    }
}
