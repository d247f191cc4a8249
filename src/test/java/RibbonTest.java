/** Promises 29 to 31: over, readBack, laid. */
final class RibbonTest {
    private static final Due DUE = new Due("RibbonTest");

    public static void main(String[] args) {
        toAndFro();
        lengthOne();
        laid();
        places();
        DUE.end();
    }

    private static void toAndFro() {
        AskewLetters x = new AskewLetters();
        x.set(4, 3);
        int[] at = {0, 1, 2, 2, 1, 0, 0, 1, 2, 2};
        int[] over = new int[3];
        int[] latest = {-9, -9, -9};
        for (int i = 0; i < at.length; i++) {
            for (int place = 0; place < 3; place++) {
                DUE.is("over " + place + " of " + i, x.over(place), over[place]);
                DUE.is("readBack " + place + " of " + i, x.readBack(place), latest[place]);
            }
            x.stroke(i, 0, 0, 0, 0);
            over[at[i]]++;
            latest[at[i]] = i;
        }
        DUE.is("over 0 at the end", x.over(0), 3);
        DUE.is("over 2 at the end", x.over(2), 4);
        DUE.is("readBack 2 at the end", x.readBack(2), 9);
        x.set(4, 60);
        DUE.is("over 9 of a long ribbon", x.over(9), 1);
        DUE.is("over 10 of a long ribbon", x.over(10), 0);
        DUE.is("readBack 3 of a long ribbon", x.readBack(3), 3);
    }

    private static void lengthOne() {
        AskewLetters x = new AskewLetters();
        x.set(4, 1);
        for (int i = 0; i < 30; i++) {
            x.stroke(i % 10, 0, 0, 0, 0);
        }
        DUE.is("over of one place", x.over(0), 30);
        DUE.is("readBack of one place", x.readBack(0), 9);
    }

    private static void laid() {
        AskewLetters x = new AskewLetters();
        DUE.is("laid of none", x.laid(), -9);
        x.set(4, 3);
        int[] signs = {1, 2, 3};
        for (int sign : signs) {
            x.stroke(sign, 0, 0, 0, 0);
        }
        DUE.is("laid of 3", x.laid(), -9);
        x.stroke(3, 0, 0, 0, 0);
        DUE.is("laid, the same sign", x.laid(), -9);
        x.stroke(2, 0, 0, 0, 0);
        x.stroke(1, 0, 0, 0, 0);
        DUE.is("laid, the same signs", x.laid(), -9);
        x.stroke(1, 0, 0, 0, 0);
        x.stroke(7, 0, 0, 0, 0);
        DUE.is("laid on 1", x.laid(), 1);
        x.set(4, 4);
        DUE.is("laid by another length", x.laid(), 0);
        x.set(4, 60);
        DUE.is("laid on a long ribbon", x.laid(), -9);
    }

    private static void places() {
        AskewLetters x = new AskewLetters();
        DUE.is("over 19", x.over(19), 0);
        DUE.is("readBack 19", x.readBack(19), -9);
        int[] wrong = {-1, 20, 21, Integer.MIN_VALUE, Integer.MAX_VALUE};
        for (int place : wrong) {
            DUE.is("over " + place, x.over(place), -1);
            DUE.is("readBack " + place, x.readBack(place), -1);
        }
        x.set(4, 21);
        DUE.is("over 20 of 21", x.over(20), 0);
        DUE.is("refusals -1", x.count(11), 10);
        for (int i = 0; i < 30; i++) {
            x.stroke(i % 10, 0, 0, 0, 0);
        }
        // stroke 21 turns back to place 20
        DUE.is("over 20 then", x.over(20), 2);
        DUE.is("readBack 20 then", x.readBack(20), 1);
        // stroke 29 lies on stroke 12
        DUE.is("laid then", x.laid(), 12);
    }
}
