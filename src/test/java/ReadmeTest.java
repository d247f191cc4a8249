import java.io.IOException;
import java.lang.reflect.Method;
import java.nio.file.Files;
import java.nio.file.Path;
import java.util.Set;
import java.util.TreeSet;
import java.util.regex.Matcher;
import java.util.regex.Pattern;

/** What README.md says of the class: its example's answers, and that no call is left out. */
final class ReadmeTest {
    private static final Pattern CALL = Pattern.compile("(?m)^x\\.(\\w+)\\(([^)]*)\\); +// (-?\\d+): .*$");
    private static final Pattern LINE = Pattern.compile("(?m)^x\\..*$");

    private ReadmeTest() {
    }

    public static void main(String[] args) {
        Due.run(ReadmeTest.class);
    }

    private static String readme() throws IOException {
        return Files.readString(Path.of("README.md"));
    }

    private static Method methodNamed(String name) {
        for (Method method : AskewLetters.class.getMethods()) {
            if (method.getName().equals(name) && method.getDeclaringClass() == AskewLetters.class) {
                return method;
            }
        }
        throw new IllegalArgumentException("no such call: " + name);
    }

    private static long answerOf(AskewLetters x, String name, String told) throws ReflectiveOperationException {
        Method method = methodNamed(name);
        Class<?>[] types = method.getParameterTypes();
        String[] words = told.isEmpty() ? new String[0] : told.split(", ");
        Object[] arguments = new Object[words.length];
        for (int i = 0; i < words.length; i++) {
            long v = Long.decode(words[i].replace("L", ""));
            arguments[i] = types[i] == long.class ? (Object) v : (Object) (int) v;
        }
        return ((Number) method.invoke(x, arguments)).longValue();
    }

    static void p00_theExampleAnswersWhatItSays() throws IOException, ReflectiveOperationException {
        AskewLetters x = new AskewLetters();
        Matcher m = CALL.matcher(readme());
        int calls = 0;
        while (m.find()) {
            calls++;
            Due.is(m.group(1) + "(" + m.group(2) + ")", answerOf(x, m.group(1), m.group(2)), Long.parseLong(m.group(3)));
        }
        Due.is("lines of the example with an answer", calls, LINE.matcher(readme()).results().count());
        Due.holds("the example has calls", calls > 10);
    }

    static void p00_noCallIsLeftOut() throws IOException {
        Set<String> told = new TreeSet<>();
        Matcher m = Pattern.compile("`(\\w+)`").matcher(readme());
        while (m.find()) {
            told.add(m.group(1));
        }
        for (Method method : AskewLetters.class.getMethods()) {
            if (method.getDeclaringClass() == AskewLetters.class) {
                Due.holds(method.getName() + " is told", told.contains(method.getName()));
            }
        }
    }
}
