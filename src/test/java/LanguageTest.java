import java.io.IOException;
import java.io.UncheckedIOException;
import java.lang.reflect.Field;
import java.lang.reflect.Method;
import java.lang.reflect.Modifier;
import java.nio.file.Files;
import java.nio.file.Path;
import java.util.Set;
import java.util.TreeSet;
import java.util.regex.Matcher;
import java.util.regex.Pattern;

/** The public face as the document has it, and the rules of LANGUAGE.md that can be seen from outside. */
final class LanguageTest {
    private static final Class<?> OUTER = AskewLetters.class;

    public static void main(String[] args) {
        Due.run(LanguageTest.class);
    }

    private static String textOf(String path) {
        try {
            return Files.readString(Path.of(path));
        } catch (IOException e) {
            throw new UncheckedIOException(e);
        }
    }

    private static String source() {
        return textOf("src/main/java/AskewLetters.java");
    }

    private static String code() {
        return source().replaceAll("(?s)/\\*.*?\\*/", "").replaceAll("//[^\n]*", "");
    }

    private static void hasNone(String... words) {
        String code = code();
        for (String word : words) {
            Due.holds("no " + word, !Pattern.compile(word).matcher(code).find());
        }
    }

    private static Set<String> toldFace() {
        Set<String> told = new TreeSet<>();
        Matcher m = Pattern.compile("    public (int|long) (\\w+)\\(([^)]*)\\);").matcher(textOf("../shared/DOC.md"));
        while (m.find()) {
            told.add(m.group(1) + " " + m.group(2) + "(" + m.group(3).replaceAll(" \\w+(?=,|$)", "").replace(", ", ",") + ")");
        }
        return told;
    }

    private static Set<String> ownFace() {
        Set<String> own = new TreeSet<>();
        for (Method method : OUTER.getDeclaredMethods()) {
            if (!Modifier.isPrivate(method.getModifiers())) {
                StringBuilder types = new StringBuilder();
                for (Class<?> type : method.getParameterTypes()) {
                    types.append(types.length() == 0 ? "" : ",").append(type.getName());
                }
                own.add(method.getReturnType().getName() + " " + method.getName() + "(" + types + ")");
            }
        }
        return own;
    }

    static void rule01_theFaceIsTheDocuments() {
        Due.is("methods that the document tells", toldFace().size(), 37);
        Due.holds(ownFace() + " is " + toldFace(), ownFace().equals(toldFace()));
        Due.is("constructors", OUTER.getDeclaredConstructors().length, 1);
        Due.holds("the constructor is public", OUTER.getConstructors().length == 1);
        Due.holds("the class is public and final", Modifier.isPublic(OUTER.getModifiers()) && Modifier.isFinal(OUTER.getModifiers()));
        for (Field field : OUTER.getDeclaredFields()) {
            Due.holds(field + " is private", Modifier.isPrivate(field.getModifiers()));
        }
    }

    static void rule01_noPrivateMethodBearsTheNameOfAPublicOne() {
        Set<String> names = new TreeSet<>();
        for (Method method : OUTER.getDeclaredMethods()) {
            if (Modifier.isPublic(method.getModifiers())) {
                names.add(method.getName());
            }
        }
        noneIsOf(OUTER, names);
        for (Class<?> inner : OUTER.getDeclaredClasses()) {
            noneIsOf(inner, names);
        }
    }

    private static void noneIsOf(Class<?> of, Set<String> names) {
        for (Method method : of.getDeclaredMethods()) {
            Due.holds(method + " is none of them", !Modifier.isPrivate(method.getModifiers()) || !names.contains(method.getName()));
        }
    }

    static void rule02_classesInsideAreStaticAndNotPublic() {
        for (Class<?> inner : OUTER.getDeclaredClasses()) {
            Due.holds(inner + " is static", Modifier.isStatic(inner.getModifiers()));
            Due.holds(inner + " is neither public nor protected",
                !Modifier.isPublic(inner.getModifiers()) && !Modifier.isProtected(inner.getModifiers()));
        }
        hasNone("->", "::");
    }

    static void rule03_noOtherTypes() {
        hasNone("\\bObject\\b", "\\bdouble\\b", "\\bfloat\\b", "\\bNaN\\b", "[^\\x00-\\x7f]", "\\bvar\\b");
    }

    static void rule04_noOtherLibrary() {
        hasNone("\\bimport\\b", "\\bpackage\\b", "\\bjava\\.", "Exact\\b", "\\bSystem\\.(?!arraycopy)", "\\bThread\\b");
    }

    static void rule05_staticFieldsAreFinal() {
        hasNone("\\bstatic\\s*\\{");
        staticsAreFinal(OUTER);
        for (Class<?> inner : OUTER.getDeclaredClasses()) {
            staticsAreFinal(inner);
        }
    }

    private static void staticsAreFinal(Class<?> of) {
        for (Field field : of.getDeclaredFields()) {
            int how = field.getModifiers();
            Due.holds(field + " is final if static", !Modifier.isStatic(how) || Modifier.isFinal(how));
        }
    }

    static void rule06_noThrowNorWhatComesWithIt() {
        hasNone("\\bthrow\\b", "\\bthrows\\b", "\\btry\\b", "\\bcatch\\b", "\\bfinally\\b", "\\bsynchronized\\b", "\\bassert\\b",
            "\\bhashCode\\b", "\\btoString\\b", "\\bequals\\b", "\\bnative\\b", "\\binstanceof\\b");
    }

    static void rule11_sevenParametersAtMost() {
        sevenAtMost(OUTER);
        for (Class<?> inner : OUTER.getDeclaredClasses()) {
            sevenAtMost(inner);
        }
    }

    private static void sevenAtMost(Class<?> of) {
        for (Method method : of.getDeclaredMethods()) {
            Due.holds(method + " takes at most 7", method.getParameterCount() <= 7);
        }
    }

    static void rule11_methodsOfAtMost60Lines() {
        Matcher m = Pattern.compile("(?m)^( {4}| {8})(?:public |private |static )*[\\w\\[\\]]+ (\\w+)\\([^;]*?\\) \\{\\n(.*?)^\\1\\}",
            Pattern.DOTALL | Pattern.MULTILINE).matcher(source());
        int seen = 0;
        while (m.find()) {
            seen++;
            Due.holds(m.group(2) + " has at most 60 lines", m.group(3).lines().count() <= 60);
        }
        Due.holds("methods were seen", seen > 100);
    }

    static void rule11_twelveClassesOf20FieldsAtMost() {
        Due.holds("12 classes", OUTER.getDeclaredClasses().length + 1 <= 12);
        fieldsAreFew(OUTER);
        for (Class<?> inner : OUTER.getDeclaredClasses()) {
            fieldsAreFew(inner);
        }
    }

    private static void fieldsAreFew(Class<?> of) {
        int own = 0;
        for (Field field : of.getDeclaredFields()) {
            own += Modifier.isStatic(field.getModifiers()) ? 0 : 1;
        }
        Due.holds(of + " has at most 20 fields", own <= 20);
    }

    static void rule12_noCallMakesAnObject() {
        Matcher m = Pattern.compile("(?m)^.*\\bnew\\b.*$").matcher(code());
        int seen = 0;
        while (m.find()) {
            seen++;
            Due.holds("made with its object: " + m.group().strip(), m.group().matches(" +(?:private )?final [\\w\\[\\]]+ \\w+ = new .*;"));
        }
        Due.holds("some were seen", seen > 10);
    }
}
