import java.io.IOException;
import java.nio.file.Files;
import java.nio.file.Path;
import java.util.List;
import java.util.Map;
import java.util.TreeMap;
import java.util.regex.Matcher;
import java.util.regex.Pattern;
import java.util.stream.Collectors;
import java.util.stream.Stream;

/** Every promise of the document, and every refusal that it tells there, has a sentence of its own among the tests. */
final class PromiseTest {
    private static final Pattern PROMISE = Pattern.compile("(?s)## Promise (\\d+): (\\w[\\w ]*)\\n(.*?)(?=\\n## )");
    private static final Pattern REFUSAL = Pattern.compile("(?<![\\w.])-([12346])(?!\\d)");

    public static void main(String[] args) {
        Due.run(PromiseTest.class);
    }

    /** The names of all sentences, one behind another. */
    private static String sentences() throws IOException, ClassNotFoundException {
        List<String> tests;
        try (Stream<Path> files = Files.list(Path.of("src/test/java"))) {
            tests = files.map(f -> f.getFileName().toString()).filter(f -> f.endsWith("Test.java"))
                .map(f -> f.replace(".java", "")).sorted().collect(Collectors.toList());
        }
        StringBuilder names = new StringBuilder();
        for (String test : tests) {
            Due.sentencesOf(Class.forName(test)).forEach(m -> names.append(m.getName()).append('\n'));
        }
        return names.toString();
    }

    private static Map<Integer, String> promises() throws IOException {
        Map<Integer, String> promises = new TreeMap<>();
        Matcher m = PROMISE.matcher(Files.readString(Path.of("../shared/DOC.md")));
        while (m.find()) {
            promises.put(Integer.parseInt(m.group(1)), m.group(3).replace("Refused likewise", "-1; -4; -6"));
        }
        return promises;
    }

    static void p00_eachPromiseHasSentences() throws IOException, ClassNotFoundException {
        String names = sentences();
        Due.is("promises", promises().size(), 38);
        for (int promise : promises().keySet()) {
            Due.holds("promise " + promise + " has a sentence", names.contains(String.format("p%02d_", promise)));
        }
    }

    static void p00_eachRefusalThatIsToldHasASentence() throws IOException, ClassNotFoundException {
        String names = sentences();
        int told = 0;
        for (Map.Entry<Integer, String> promise : promises().entrySet()) {
            Matcher m = REFUSAL.matcher(promise.getValue().replaceAll("`[^`]*`", ""));
            while (m.find()) {
                String start = String.format("p%02d_minus%s", promise.getKey(), m.group(1));
                told++;
                Due.holds(start + " is a sentence", names.contains(start) || promise.getKey() == 38);
            }
        }
        Due.holds("refusals were seen", told > 60);
    }
}
