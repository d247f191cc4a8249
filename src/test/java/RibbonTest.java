/** Promises 29 to 31, the RIBBON: over, readBack, laid. */
final class RibbonTest {
    public static void main(String[] args) {
        Due.run(RibbonTest.class);
    }

    /** Strokes of signs 0, 1, .. 9, 0, .. */
    private static AskewLetters struck(int strokes, int length) {
        AskewLetters x = new AskewLetters();
        x.set(4, length);
        for (int i = 0; i < strokes; i++) {
            Due.strike(x, i % 10);
        }
        return x;
    }

    static void p29_howManyStrokesLieThere() {
        int[] at = {0, 1, 2, 2, 1, 0, 0, 1, 2, 2, 1, 0, 0};
        int[] over = new int[3];
        for (int i = 0; i < at.length; i++) {
            AskewLetters x = struck(i, 3);
            for (int place = 0; place < 3; place++) {
                Due.is("over " + place + " of " + i, x.over(place), over[place]);
            }
            over[at[i]]++;
        }
    }

    static void p29_itTurnsAtItsEndsAndStrikesThereTwice() {
        AskewLetters x = struck(30, 10);
        for (int place = 0; place < 10; place++) {
            Due.is("over " + place + " of 30", x.over(place), 3);
        }
        x = struck(11, 10);
        Due.is("over the far end of 11", x.over(9), 2);
        Due.is("over the one ahead of it", x.over(8), 1);
        x = struck(20, 10);
        Due.is("over the near end of 20", x.over(0), 2);
        x = struck(21, 10);
        Due.is("over the near end of 21", x.over(0), 3);
    }

    static void p29_lengthOf1() {
        Due.is("over 0", struck(30, 1).over(0), 30);
        Due.is("over 1", struck(30, 1).over(1), -1);
    }

    static void p29_lengthOf60() {
        AskewLetters x = struck(30, 60);
        Due.is("over 29", x.over(29), 1);
        Due.is("over 30", x.over(30), 0);
        Due.is("over 59", x.over(59), 0);
        Due.is("over 60", x.over(60), -1);
    }

    static void p29_lengthOf20AtFirst() {
        AskewLetters x = new AskewLetters();
        for (int i = 0; i < 30; i++) {
            Due.strike(x, 0);
        }
        Due.is("over 9", x.over(9), 1);
        Due.is("over 10", x.over(10), 2);
        Due.is("over 19", x.over(19), 2);
        Due.is("over 20", x.over(20), -1);
    }

    static void p29_theLengthThatIsSetNow() {
        AskewLetters x = struck(6, 3);
        Due.is("over 2 of 3", x.over(2), 2);
        x.set(4, 2);
        // 0 1 1 0 0 1
        Due.is("over 0 of 2", x.over(0), 3);
        Due.is("over 2 of 2", x.over(2), -1);
        x.set(4, 6);
        Due.is("over 2 of 6", x.over(2), 1);
    }

    static void p29_ofAnEmptyPage0() {
        AskewLetters x = new AskewLetters();
        Due.is("over 0", x.over(0), 0);
        Due.is("over 19", x.over(19), 0);
    }

    static void p30_theSignOfTheLatestThere() {
        int[] at = {0, 1, 2, 2, 1, 0, 0, 1, 2, 2};
        int[] latest = {-9, -9, -9};
        for (int i = 0; i < at.length; i++) {
            AskewLetters x = struck(i, 3);
            for (int place = 0; place < 3; place++) {
                Due.is("readBack " + place + " of " + i, x.readBack(place), latest[place]);
            }
            latest[at[i]] = i;
        }
    }

    static void p30_lengthOf1And60() {
        Due.is("readBack of 1", struck(30, 1).readBack(0), 9);
        Due.is("readBack 1 of 1", struck(30, 1).readBack(1), -1);
        Due.is("readBack 29 of 60", struck(30, 60).readBack(29), 9);
        Due.is("readBack 30 of 60", struck(30, 60).readBack(30), -9);
        Due.is("readBack 59 of 60", struck(30, 60).readBack(59), -9);
        Due.is("readBack 60 of 60", struck(30, 60).readBack(60), -1);
    }

    static void p30_minus9None() {
        AskewLetters x = new AskewLetters();
        Due.is("readBack 0", x.readBack(0), -9);
        Due.is("readBack 19", x.readBack(19), -9);
        Due.is("readBack 20", x.readBack(20), -1);
        Due.strike(x, 4);
        Due.is("readBack 0 then", x.readBack(0), 4);
        Due.is("readBack 1 then", x.readBack(1), -9);
        x.clear();
        Due.is("readBack 0 of a cleared page", x.readBack(0), -9);
    }

    private static int laid(int length, int... signs) {
        AskewLetters x = new AskewLetters();
        x.set(4, length);
        Due.strike(x, signs);
        return x.laid();
    }

    static void p31_theFirstStrokeWithAnotherOneOverIt() {
        // places 0 1 2 2 1 0
        Due.is("the third by the fourth", laid(3, 1, 2, 3, 4), 2);
        Due.is("the second by the fifth", laid(3, 1, 2, 3, 4, 5), 1);
        Due.is("the first by the sixth", laid(3, 1, 2, 3, 4, 5, 6), 0);
        Due.is("the second, the first has its like", laid(3, 1, 2, 3, 4, 5, 1), 1);
    }

    static void p31_ofAnotherSign() {
        Due.is("all alike", laid(1, 7, 7, 7, 7), -9);
        Due.is("there and back", laid(3, 1, 2, 3, 3, 2, 1), -9);
        Due.is("the last is another", laid(1, 7, 7, 7, 8), 0);
        Due.is("another between", laid(1, 7, 8, 7), 0);
        // places 0 1 2 2 1 0 0 1
        Due.is("the second by the eighth", laid(3, 1, 2, 3, 3, 2, 1, 1, 7), 1);
    }

    static void p31_laterAtTheSamePlace() {
        AskewLetters x = struck(30, 21);
        // stroke 21 turns back to place 20, stroke 29 lies on stroke 12
        Due.is("laid", x.laid(), 12);
        x.set(4, 29);
        Due.is("laid on the last but one", x.laid(), 28);
        x.set(4, 30);
        Due.is("laid on a ribbon as long as the page", x.laid(), -9);
    }

    static void p31_minus9None() {
        Due.is("of an empty page", laid(1), -9);
        Due.is("of one stroke", laid(1, 5), -9);
        Due.is("of a long ribbon", laid(60, 0, 1, 2, 3, 4, 5, 6, 7, 8, 9), -9);
    }
}
