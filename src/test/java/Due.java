import java.lang.reflect.InvocationTargetException;
import java.lang.reflect.Method;
import java.util.ArrayList;
import java.util.Comparator;
import java.util.List;

/**
 * Runs the sentences of a test class and gathers answers that are not the ones that are due.
 *
 * A sentence is a static method without arguments, named by the promise (or the rule of LANGUAGE.md) and by what is told
 * there: p03_sixMachinesAtMost, rule06_noThrow.
 */
final class Due {
    private static final String SENTENCE = "(p|rule)\\d\\d_\\w+";

    private static String sentence = "";
    private static int asked = 0;
    private static int wrong = 0;

    private Due() {
    }

    static void is(String call, long got, long want) {
        asked++;
        if (got != want) {
            fail(call + " answered " + got + ", due is " + want);
        }
    }

    static void holds(String what, boolean does) {
        asked++;
        if (!does) {
            fail(what + " does not hold");
        }
    }

    private static void fail(String why) {
        wrong++;
        System.out.println(sentence + ": " + why);
    }

    static void run(Class<?> test) {
        List<Method> sentences = sentencesOf(test);
        for (Method each : sentences) {
            sentence = each.getName();
            int before = asked;
            tell(each);
            if (asked == before) {
                fail("nothing was asked");
            }
        }
        System.out.println(test.getName() + ": " + sentences.size() + " sentences, " + asked + " asked, " + wrong + " wrong");
        if (wrong != 0 || sentences.isEmpty()) {
            System.exit(1);
        }
    }

    private static void tell(Method each) {
        try {
            each.invoke(null);
        } catch (InvocationTargetException e) {
            fail("ended by " + e.getCause());
        } catch (IllegalAccessException e) {
            fail("can't be called: " + e);
        }
    }

    static List<Method> sentencesOf(Class<?> test) {
        List<Method> sentences = new ArrayList<>();
        for (Method each : test.getDeclaredMethods()) {
            if (each.getName().matches(SENTENCE)) {
                sentences.add(each);
            }
        }
        sentences.sort(Comparator.comparing(Method::getName));
        return sentences;
    }

    static void feedText(AskewLetters x, String text) {
        for (int from = 0; from < text.length(); from += 8) {
            int to = Math.min(text.length(), from + 8);
            x.feed(to - from, bytesOf(text.substring(from, to)));
        }
    }

    /** Eight bytes at most, the first one the lowest. */
    static long bytesOf(String text) {
        long bytes = 0;
        for (int i = text.length() - 1; i >= 0; i--) {
            bytes = bytes << 8 | text.charAt(i);
        }
        return bytes;
    }

    static int bookOf(AskewLetters x, String text) {
        feedText(x, text);
        return x.book();
    }

    /** What a new object answers to a book. */
    static int fresh(String text) {
        return bookOf(new AskewLetters(), text);
    }

    /** A new object with books that must be without fault. */
    static AskewLetters with(String... books) {
        AskewLetters x = new AskewLetters();
        for (String text : books) {
            if (bookOf(x, text) < 1) {
                throw new IllegalStateException("the test's own book has a fault: " + text);
            }
        }
        return x;
    }

    /** STROKES that have nothing but their SIGNS. */
    static void strike(AskewLetters x, int... signs) {
        for (int sign : signs) {
            x.stroke(sign, 0, 0, 0, 0);
        }
    }
}
