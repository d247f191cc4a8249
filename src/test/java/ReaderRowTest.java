/** Promises 32 to 35: known, reader, row, judge. */
final class ReaderRowTest {
    private static final Due DUE = new Due("ReaderRowTest");

    public static void main(String[] args) {
        known();
        reader();
        row();
        judge();
        DUE.end();
    }

    private static void known() {
        AskewLetters x = new AskewLetters();
        int[][] calls = {{-10, 10}, {10, -10}, {10, 0}, {0, 10}, {Integer.MIN_VALUE, 0}, {0, Integer.MAX_VALUE}};
        int[] dues = {-4, -4, -6, -6, -4, -6};
        for (int i = 0; i < calls.length; i++) {
            DUE.is("known refused " + i, x.known(calls[i][0], calls[i][1]), dues[i]);
        }
        for (int i = 1; i <= 20; i++) {
            DUE.is("known", x.known(9, -9), i);
        }
        DUE.is("known 21", x.known(0, 0), -6);
        DUE.is("known 21 below", x.known(0, -10), -4);
        DUE.is("readers' leans", x.count(7), 20);
        readerIs(x, 18, 1);
    }

    private static void readerIs(AskewLetters x, int above, int below) {
        DUE.is("reader", x.reader(0), above);
        DUE.is("reader below the line", x.reader(1), below);
    }

    private static void reader() {
        AskewLetters x = new AskewLetters();
        DUE.is("reader of none", x.reader(0), 1000000003);
        DUE.is("reader of none, part 2", x.reader(2), 1000000002);
        DUE.is("reader of none, part -1", x.reader(-1), 1000000002);
        x.known(-9, 9);
        readerIs(x, -18, 1);
        x.known(9, -9);
        readerIs(x, 0, 1);
        x.known(0, 1);
        readerIs(x, -1, 3);
        x.known(0, 1);
        readerIs(x, -1, 2);
        x.known(9, 0);
        readerIs(x, 7, 5);
        DUE.is("reader, part 2", x.reader(2), 1000000002);
        DUE.is("refusals -2", x.count(12), 3);
        DUE.is("refusals -3", x.count(13), 1);
    }

    private static void row() {
        AskewLetters x = new AskewLetters();
        DUE.is("row -1", x.row(-1), -4);
        DUE.is("row 10", x.row(10), -6);
        for (int i = 1; i <= 30; i++) {
            DUE.is("row", x.row(i % 10), i);
        }
        DUE.is("row 31", x.row(0), -6);
        DUE.is("row 31 below", x.row(-1), -4);
        DUE.is("signs in the row", x.count(5), 30);
        DUE.is("judge, too long", x.judge(), 0);
        DUE.is("the row has none", x.count(5), 0);
    }

    private static void judgeIs(AskewLetters x, int due, int... signs) {
        for (int sign : signs) {
            x.row(sign);
        }
        DUE.is("judge", x.judge(), due);
        DUE.is("the row has none then", x.count(5), 0);
    }

    private static void judge() {
        AskewLetters x = new AskewLetters();
        judgeIs(x, -9);
        judgeIs(x, 0, 5);
        x.stroke(5, 0, 0, 0, 0);
        x.stroke(6, 0, 0, 0, 0);
        x.stroke(5, 0, 0, 0, 0);
        judgeIs(x, -9, 5, 6, 5);
        judgeIs(x, 0);
        judgeIs(x, 2, 5, 6);
        judgeIs(x, 3, 5, 6, 5, 5);
        judgeIs(x, 1, 5, 5, 5);
        judgeIs(x, 0, 6, 6);
        judgeIs(x, 2, 5, 6, 6, 5, 5);
        DUE.is("strokes stay", x.count(2), 3);
    }
}
