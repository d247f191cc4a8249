/** Promises 32 to 35: known, reader, row, judge. */
final class ReaderRowTest {
    public static void main(String[] args) {
        Due.run(ReaderRowTest.class);
    }

    static void p32_howMany20AtMost() {
        AskewLetters x = new AskewLetters();
        for (int i = 1; i <= 20; i++) {
            Due.is("known", x.known(9, -9), i);
            Due.is("readers' leans", x.count(7), i);
        }
        Due.is("the 21st", x.known(0, 0), -6);
        Due.is("readers' leans", x.count(7), 20);
        readerIs(x, 18, 1);
    }

    static void p32_leansAreMinus9To9() {
        AskewLetters x = new AskewLetters();
        Due.is("least", x.known(-9, -9), 1);
        Due.is("greatest", x.known(9, 9), 2);
        Due.is("told below", x.known(-10, 0), -4);
        Due.is("true below", x.known(0, -10), -4);
        Due.is("told above", x.known(10, 0), -6);
        Due.is("true above", x.known(0, 10), -6);
        Due.is("one more", x.known(9, -9), 3);
    }

    private static void readerIs(AskewLetters x, int above, int below) {
        Due.is("reader", x.reader(0), above);
        Due.is("reader below the line", x.reader(1), below);
    }

    static void p33_meanOfTheToldLessTheTrueInLeastTerms() {
        AskewLetters x = new AskewLetters();
        x.known(3, 1);
        readerIs(x, 2, 1);
        x.known(1, 0);
        readerIs(x, 3, 2);
        x.known(0, 0);
        readerIs(x, 1, 1);
        x.known(0, 1);
        readerIs(x, 1, 2);
        x.known(9, 9);
        readerIs(x, 2, 5);
    }

    static void p33_aboveMayBeBelow0() {
        AskewLetters x = new AskewLetters();
        x.known(-9, 9);
        readerIs(x, -18, 1);
        x.known(9, 0);
        readerIs(x, -9, 2);
        x.known(0, -3);
        readerIs(x, -2, 1);
    }

    static void p33_0By1() {
        AskewLetters x = new AskewLetters();
        x.known(5, 5);
        readerIs(x, 0, 1);
        x.known(-9, 9);
        x.known(9, -9);
        readerIs(x, 0, 1);
    }

    static void p33_theLeastAndTheGreatest() {
        AskewLetters x = new AskewLetters();
        AskewLetters y = new AskewLetters();
        for (int i = 0; i < 20; i++) {
            x.known(-9, 9);
            y.known(9, i == 0 ? -8 : -9);
        }
        readerIs(x, -18, 1);
        readerIs(y, 359, 20);
    }

    static void p33_minus3ThereAreNone() {
        AskewLetters x = new AskewLetters();
        Due.is("reader 0", x.reader(0), 1000000003);
        Due.is("reader 1", x.reader(1), 1000000003);
        Due.is("reader 2", x.reader(2), 1000000002);
        x.known(0, 0);
        readerIs(x, 0, 1);
    }

    static void p34_howManyUpTo30() {
        AskewLetters x = new AskewLetters();
        for (int i = 1; i <= 30; i++) {
            Due.is("row", x.row(i % 10), i);
            Due.is("signs in the row", x.count(5), i);
        }
        Due.is("the 31st", x.row(0), -6);
        Due.is("signs in the row", x.count(5), 30);
    }

    static void p34_signsAre0To9() {
        AskewLetters x = new AskewLetters();
        Due.is("least", x.row(0), 1);
        Due.is("greatest", x.row(9), 2);
        Due.is("below", x.row(-1), -4);
        Due.is("above", x.row(10), -6);
        Due.is("signs in the row", x.count(5), 2);
        Due.strike(x, 0, 9);
        Due.is("judge", x.judge(), -9);
    }

    private static void judgeIs(AskewLetters x, int due, int... signs) {
        for (int sign : signs) {
            x.row(sign);
        }
        Due.is("judge", x.judge(), due);
        Due.is("the row has none then", x.count(5), 0);
    }

    private static AskewLetters page565() {
        AskewLetters x = new AskewLetters();
        Due.strike(x, 5, 6, 5);
        return x;
    }

    static void p35_theFirstStrokeThatIsNotSoTold() {
        AskewLetters x = page565();
        judgeIs(x, 0, 6, 6, 5);
        judgeIs(x, 1, 5, 5, 5);
        judgeIs(x, 2, 5, 6, 6);
        judgeIs(x, 0, 6, 5, 6);
    }

    static void p35_minus9AllAreSoTold() {
        AskewLetters x = page565();
        judgeIs(x, -9, 5, 6, 5);
        judgeIs(new AskewLetters(), -9);
    }

    static void p35_whereItEndsIfTooShort() {
        AskewLetters x = page565();
        judgeIs(x, 0);
        judgeIs(x, 1, 5);
        judgeIs(x, 2, 5, 6);
        judgeIs(x, 0, 6, 6);
    }

    static void p35_howManyStrokesIfTooLong() {
        AskewLetters x = page565();
        judgeIs(x, 3, 5, 6, 5, 5);
        judgeIs(x, 3, 5, 6, 5, 0, 0);
        judgeIs(x, 2, 5, 6, 6, 5, 5);
        judgeIs(new AskewLetters(), 0, 0);
    }

    static void p35_ofThirty() {
        AskewLetters x = new AskewLetters();
        int[] row = new int[30];
        for (int i = 0; i < 30; i++) {
            row[i] = i % 10;
            Due.strike(x, row[i]);
        }
        judgeIs(x, -9, row);
        row[29] = 0;
        judgeIs(x, 29, row);
    }

    static void p35_theRowHasNoneThenAndThePageStays() {
        AskewLetters x = page565();
        judgeIs(x, -9, 5, 6, 5);
        judgeIs(x, -9, 5, 6, 5);
        judgeIs(x, 0, 1);
        judgeIs(x, -9, 5, 6, 5);
        Due.is("strokes", x.count(2), 3);
    }
}
