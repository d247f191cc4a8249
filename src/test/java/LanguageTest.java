import java.io.IOException;
import java.lang.reflect.Field;
import java.lang.reflect.Method;
import java.lang.reflect.Modifier;
import java.nio.file.Files;
import java.nio.file.Path;
import java.util.Set;
import java.util.TreeSet;
import java.util.regex.Matcher;
import java.util.regex.Pattern;

/** The public face as the document has it, and the rules of LANGUAGE.md that can be seen from outside. */
final class LanguageTest {
    private static final Due DUE = new Due("LanguageTest");
    private static final String[] FORBIDDEN = {"\\bthrow\\b", "\\bthrows\\b", "\\btry\\b", "\\bcatch\\b", "\\bfinally\\b",
        "\\bsynchronized\\b", "\\bassert\\b", "->", "::", "\\bimport\\b", "\\bpackage\\b", "Exact\\b", "\\bstatic\\s*\\{",
        "\\bNaN\\b", "\\bObject\\b", "\\bSystem\\.(?!arraycopy)", "\\bhashCode\\b", "\\btoString\\b", "\\bnative\\b",
        "\\bprotected\\b", "\\bdouble\\b", "\\bfloat\\b", "[^\\x00-\\x7f]"};

    public static void main(String[] args) throws IOException {
        face(Files.readString(Path.of("../shared/DOC.md")));
        String source = Files.readString(Path.of("src/main/java/AskewLetters.java"));
        words(source.replaceAll("(?s)/\\*.*?\\*/", "").replaceAll("//[^\n]*", ""));
        methods(source);
        statics();
        DUE.end();
    }

    private static void face(String doc) {
        Set<String> told = new TreeSet<>();
        Matcher m = Pattern.compile("    public (int|long) (\\w+)\\(([^)]*)\\);").matcher(doc);
        while (m.find()) {
            told.add(m.group(1) + " " + m.group(2) + "(" + m.group(3).replaceAll(" \\w+(?=,|$)", "").replace(", ", ",") + ")");
        }
        DUE.is("methods that the document tells", told.size(), 37);
        Set<String> own = new TreeSet<>();
        Set<String> names = new TreeSet<>();
        for (Method method : AskewLetters.class.getDeclaredMethods()) {
            if (!Modifier.isPrivate(method.getModifiers())) {
                StringBuilder types = new StringBuilder();
                for (Class<?> type : method.getParameterTypes()) {
                    types.append(types.length() == 0 ? "" : ",").append(type.getName());
                }
                own.add(method.getReturnType().getName() + " " + method.getName() + "(" + types + ")");
                names.add(method.getName());
            }
        }
        if (!own.equals(told)) {
            System.out.println("the document tells " + told + ", the class has " + own);
        }
        DUE.is("the face is the document's", own.equals(told) ? 1 : 0, 1);
        DUE.is("constructors", AskewLetters.class.getConstructors().length, 1);
        DUE.is("final", Modifier.isFinal(AskewLetters.class.getModifiers()) ? 1 : 0, 1);
        noNameTwice(AskewLetters.class, names);
        for (Class<?> inner : AskewLetters.class.getDeclaredClasses()) {
            DUE.is(inner + " is static", Modifier.isStatic(inner.getModifiers()) ? 1 : 0, 1);
            DUE.is(inner + " is not public", Modifier.isPublic(inner.getModifiers()) ? 1 : 0, 0);
            noNameTwice(inner, names);
        }
        DUE.is("classes are at most 12", Math.max(12, AskewLetters.class.getDeclaredClasses().length + 1), 12);
    }

    private static void noNameTwice(Class<?> of, Set<String> names) {
        for (Method method : of.getDeclaredMethods()) {
            boolean twice = Modifier.isPrivate(method.getModifiers()) && names.contains(method.getName());
            DUE.is(of + "." + method.getName() + " bears a public name", twice ? 1 : 0, 0);
            DUE.is(method + " takes at most 7", Math.max(7, method.getParameterCount()), 7);
        }
    }

    private static void words(String code) {
        for (String word : FORBIDDEN) {
            Matcher m = Pattern.compile(word).matcher(code);
            DUE.is("the code has " + word, m.find() ? 1 : 0, 0);
        }
    }

    private static void methods(String source) {
        Matcher m = Pattern.compile("(?m)^( {4}| {8})(?:public |private |static )*[\\w\\[\\]]+ (\\w+)\\([^;]*?\\) \\{\\n(.*?)^\\1\\}",
            Pattern.DOTALL | Pattern.MULTILINE).matcher(source);
        int seen = 0;
        while (m.find()) {
            seen++;
            long lines = m.group(3).lines().count();
            DUE.is(m.group(2) + " has at most 60 lines", Math.max(60, lines), 60);
        }
        DUE.is("methods were seen", seen > 100 ? 1 : 0, 1);
    }

    private static void statics() {
        fieldsOf(AskewLetters.class);
        for (Class<?> inner : AskewLetters.class.getDeclaredClasses()) {
            fieldsOf(inner);
        }
    }

    private static void fieldsOf(Class<?> of) {
        int own = 0;
        for (Field field : of.getDeclaredFields()) {
            int how = field.getModifiers();
            if (Modifier.isStatic(how)) {
                DUE.is(field + " is final", Modifier.isFinal(how) ? 1 : 0, 1);
            } else {
                own++;
            }
            if (of == AskewLetters.class) {
                DUE.is(field + " is private", Modifier.isPrivate(how) ? 1 : 0, 1);
            }
        }
        DUE.is(of + " has at most 20 fields", Math.max(20, own), 20);
    }
}
