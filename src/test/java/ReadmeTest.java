import java.io.IOException;
import java.lang.reflect.InvocationTargetException;
import java.lang.reflect.Method;
import java.lang.reflect.Modifier;
import java.nio.file.Files;
import java.nio.file.Path;
import java.util.List;
import java.util.regex.Matcher;
import java.util.regex.Pattern;

/** The calls that README.md shows answer what stands beside them, and its table tells of each call how it is refused. */
public final class ReadmeTest {
    private static final Pattern CALL = Pattern.compile("^x\\.(\\w+)\\((.*?)\\); +// (\\w+)");

    private ReadmeTest() {
    }

    public static void main(String[] args) throws IOException, IllegalAccessException, InvocationTargetException {
        List<String> lines = Files.readAllLines(Path.of("README.md"));
        for (Method m : HiddenOrLost.class.getDeclaredMethods()) {
            if (Modifier.isPublic(m.getModifiers())) {
                boolean isTold = lines.stream().anyMatch(line -> line.startsWith("|") && line.contains("`" + m.getName() + "`"));
                Check.same("how " + m.getName() + " is refused is told", isTold, true);
            }
        }
        HiddenOrLost x = new HiddenOrLost();
        int shown = 0;
        for (String line : lines) {
            Matcher call = CALL.matcher(line);
            if (call.find()) {
                Check.same(line, answer(x, call.group(1), call.group(2)), call.group(3));
                shown++;
            }
        }
        Check.same("calls are shown", shown > 0, true);
        Check.close();
    }

    private static String answer(HiddenOrLost x, String name, String list) throws IllegalAccessException, InvocationTargetException {
        String[] words = list.isEmpty() ? new String[0] : list.split(", ");
        Object[] numbers = new Object[words.length];
        for (int i = 0; i < words.length; i++) {
            numbers[i] = Integer.decode(words[i]);
        }
        for (Method m : HiddenOrLost.class.getMethods()) {
            if (m.getName().equals(name) && m.getParameterCount() == words.length) {
                return String.valueOf(m.invoke(x, numbers));
            }
        }
        return "no such call";
    }
}
