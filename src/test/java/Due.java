/** Gathers answers that are not the ones that are due. */
final class Due {
    private final String test;
    private int wrong = 0;
    private int asked = 0;

    Due(String test) {
        this.test = test;
    }

    void is(String call, long got, long want) {
        asked++;
        if (got != want) {
            wrong++;
            System.out.println(test + ": " + call + " answered " + got + ", due is " + want);
        }
    }

    void end() {
        System.out.println(test + ": " + asked + " asked, " + wrong + " wrong");
        if (wrong != 0) {
            System.exit(1);
        }
    }

    static void feedText(AskewLetters x, String text) {
        for (int from = 0; from < text.length(); from += 8) {
            int to = Math.min(text.length(), from + 8);
            long bytes = 0;
            for (int i = to - 1; i >= from; i--) {
                bytes = bytes << 8 | text.charAt(i);
            }
            x.feed(to - from, bytes);
        }
    }

    static int bookOf(AskewLetters x, String text) {
        feedText(x, text);
        return x.book();
    }

    /** A new object with a book that must be without fault. */
    static AskewLetters with(String... books) {
        AskewLetters x = new AskewLetters();
        for (String text : books) {
            if (bookOf(x, text) < 1) {
                throw new IllegalStateException("the test's own book has a fault: " + text);
            }
        }
        return x;
    }

    static long far(int refusal) {
        return 4000000000000000000L - refusal;
    }
}
