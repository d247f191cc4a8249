import java.lang.reflect.InvocationTargetException;
import java.lang.reflect.Method;
import java.util.ArrayList;
import java.util.Arrays;
import java.util.Comparator;
import java.util.List;
import java.util.Random;

/** LANGUAGE.md's rule 7: no call ever throws, whatever is asked of whatever object. */
final class AnyArgumentsTest {
    private static final int CALLS = 512;
    private static final int OBJECTS = 300;
    private static final long[] EDGES = {Long.MIN_VALUE, Integer.MIN_VALUE, -1000000000, -10, -9, -1, 0, 1, 2, 3, 4, 5, 6, 7, 8, 9,
        10, 13, 14, 15, 16, 19, 20, 29, 30, 31, 36, 37, 60, 61, 99, 100, 101, 360, 365, 366, 9999999999L, 10000000000L,
        Integer.MAX_VALUE, Long.MAX_VALUE};

    private AnyArgumentsTest() {
    }

    public static void main(String[] args) {
        Due.run(AnyArgumentsTest.class);
    }

    private static List<Method> face() {
        List<Method> face = new ArrayList<>();
        for (Method method : AskewLetters.class.getMethods()) {
            if (method.getDeclaringClass() == AskewLetters.class) {
                face.add(method);
            }
        }
        face.sort(Comparator.comparing(Method::getName));
        return face;
    }

    private static Object[] argumentsFor(Method method, Random random) {
        Class<?>[] types = method.getParameterTypes();
        Object[] arguments = new Object[types.length];
        for (int i = 0; i < types.length; i++) {
            long v = random.nextInt(3) == 0 ? EDGES[random.nextInt(EDGES.length)] : random.nextInt(10);
            arguments[i] = types[i] == long.class ? (Object) v : (Object) (int) v;
        }
        return arguments;
    }

    private static boolean answers(AskewLetters x, Method method, Object[] arguments) {
        try {
            method.invoke(x, arguments);
            return true;
        } catch (InvocationTargetException e) {
            System.out.println(method.getName() + Arrays.toString(arguments) + " ended by " + e.getCause());
            return false;
        } catch (IllegalAccessException e) {
            throw new IllegalStateException(e);
        }
    }

    private static void asked(AskewLetters x, long seed) {
        List<Method> face = face();
        Random random = new Random(seed);
        boolean fine = true;
        for (int i = 0; i < CALLS; i++) {
            Method method = face.get(random.nextInt(face.size()));
            fine &= answers(x, method, argumentsFor(method, random));
        }
        Due.holds("no call on object " + seed + " throws", fine);
    }

    static void rule07_onAnEmptyObject() {
        for (int seed = 0; seed < OBJECTS; seed++) {
            asked(new AskewLetters(), seed);
        }
    }

    static void rule07_onAnObjectWithMachines() {
        for (int seed = 0; seed < OBJECTS; seed++) {
            asked(Due.with("m9;m8;m7;m6;m5;m4;k0+9;k9-9;b00@0+9;", "b59@365-9;n00@9:3;s00@20;c56;"), seed);
        }
    }

    static void rule07_onBooksOfAnyBytes() {
        String bytes = "mkbsnc@:;+-0123456789";
        Random random = new Random(7);
        for (int seed = 0; seed < OBJECTS; seed++) {
            AskewLetters x = new AskewLetters();
            int least = 0;
            for (int book = 0; book < 50; book++) {
                StringBuilder text = new StringBuilder();
                for (int i = random.nextInt(65); i > 0; i--) {
                    text.append(random.nextInt(30) == 0 ? (char) random.nextInt(256) : bytes.charAt(random.nextInt(21)));
                }
                least = Math.min(least, Due.bookOf(x, text.toString()));
            }
            Due.holds("books of object " + seed + " are answered", least >= -2064);
        }
    }
}
