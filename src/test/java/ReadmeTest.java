import java.io.IOException;
import java.lang.reflect.Method;
import java.nio.file.Files;
import java.nio.file.Path;
import java.util.List;
import java.util.regex.Matcher;
import java.util.regex.Pattern;

/** The calls that README.md shows have the answers that stand behind them. */
public final class ReadmeTest extends Due {
    private static final Pattern CALL = Pattern.compile("row\\.(\\w+)\\((.*)\\); +// (-?\\w+)(:.*)?");
    private static final Pattern TEXT = Pattern.compile("feed\\(row, \"(.*)\"\\);");

    private static Method methodOf(String name) throws NoSuchMethodException {
        for (Method m : HeavierRow.class.getMethods()) {
            if (m.getName().equals(name)) {
                return m;
            }
        }
        throw new NoSuchMethodException(name);
    }

    private static String answer(HeavierRow row, String name, String list) throws ReflectiveOperationException {
        String[] words = list.isEmpty() ? new String[0] : list.split(", ");
        Object[] given = new Object[words.length];
        for (int i = 0; i < words.length; i++) {
            given[i] = words[i].matches("true|false") ? (Object) Boolean.valueOf(words[i]) : Integer.valueOf(words[i]);
        }
        return methodOf(name).invoke(row, given).toString();
    }

    private static int follow(List<String> lines) throws ReflectiveOperationException {
        HeavierRow row = new HeavierRow();
        int calls = 0;
        for (String line : lines) {
            Matcher call = CALL.matcher(line);
            Matcher text = TEXT.matcher(line);
            if (call.matches()) {
                due(line, answer(row, call.group(1), call.group(2)), call.group(3));
                calls++;
            } else if (text.matches()) {
                feed(row, text.group(1));
            }
        }
        return calls;
    }

    /** Each call of the document's face is in the README's table. */
    private static void table(String readme) {
        for (Method m : HeavierRow.class.getDeclaredMethods()) {
            if (java.lang.reflect.Modifier.isPublic(m.getModifiers())) {
                due("`" + m.getName() + "` is told of", readme.contains("`" + m.getName() + "`"), true);
            }
        }
    }

    public static void main(String[] args) throws IOException, ReflectiveOperationException {
        sentence("README.md");
        Path readme = Path.of("README.md");
        due("calls are shown", follow(Files.readAllLines(readme)) > 20, true);
        table(Files.readString(readme));
        finish("ReadmeTest");
    }
}
