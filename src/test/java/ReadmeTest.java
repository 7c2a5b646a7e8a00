import java.lang.reflect.InvocationTargetException;
import java.lang.reflect.Method;
import java.nio.file.Files;
import java.nio.file.Path;
import java.util.regex.Matcher;
import java.util.regex.Pattern;

/** Every call that README.md shows answers what stands behind it there. */
final class ReadmeTest {
    private static final Due DUE = new Due("ReadmeTest");
    private static final Pattern CALL = Pattern.compile("river\\.(\\w+)\\(([-\\d, ]*)\\); +// (-?\\d+|throws \\w+)\\b.*");

    public static void main(String[] args) throws Exception {
        IceOut river = null;
        boolean inside = false;
        int calls = 0;
        for (String line : Files.readAllLines(Path.of("README.md"))) {
            if (line.startsWith("```")) {
                inside = line.equals("```java");
            } else if (inside && line.startsWith("IceOut river = new IceOut();")) {
                river = new IceOut();
            } else if (inside && !line.isEmpty()) {
                Matcher m = CALL.matcher(line);
                boolean told = m.matches() && river != null;
                DUE.is("a call with its answer: " + line, told ? 1 : 0, 1);
                if (told) {
                    calls++;
                    String got = answer(river, m.group(1), m.group(2));
                    DUE.is(line + " answered " + got, got.equals(m.group(3)) ? 1 : 0, 1);
                }
            }
        }
        DUE.is("README.md shows calls (" + calls + ")", calls > 30 ? 1 : 0, 1);
        DUE.end();
    }

    private static String answer(IceOut river, String name, String list) throws Exception {
        String[] words = list.isEmpty() ? new String[0] : list.split(", *");
        Method call = named(name, words.length);
        Object[] numbers = new Object[words.length];
        for (int k = 0; k < words.length; k++) {
            boolean isLong = call.getParameterTypes()[k] == long.class;
            numbers[k] = isLong ? (Object) Long.valueOf(words[k]) : (Object) Integer.valueOf(words[k]);
        }
        try {
            return String.valueOf(call.invoke(river, numbers));
        } catch (InvocationTargetException thrown) {
            return "throws " + thrown.getCause().getClass().getSimpleName();
        }
    }

    private static Method named(String name, int parameters) {
        for (Method m : IceOut.class.getMethods()) {
            if (m.getName().equals(name) && m.getParameterCount() == parameters) {
                return m;
            }
        }
        throw new IllegalArgumentException(name);
    }
}
