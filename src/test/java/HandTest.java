/** Promises 24 to 28: hand, handLike, whose, pale, type. */
final class HandTest {
    private static final Due DUE = new Due("HandTest");

    public static void main(String[] args) {
        hands();
        handLike();
        whose();
        pale();
        type();
        typeWanders();
        typeRefusals();
        DUE.end();
    }

    private static void hands() {
        AskewLetters x = new AskewLetters();
        DUE.is("hand -1", x.hand(-1), -4);
        DUE.is("hand least", x.hand(Long.MIN_VALUE), -4);
        DUE.is("hand of 11 digits", x.hand(10000000000L), -6);
        DUE.is("hand greatest", x.hand(Long.MAX_VALUE), -6);
        for (int hand = 0; hand < 4; hand++) {
            DUE.is("hand", x.hand(9999999999L), hand);
        }
        DUE.is("hand 4", x.hand(0), -6);
        DUE.is("hand 4 below", x.hand(-1), -4);
        DUE.is("hands", x.count(4), 4);
    }

    private static void handLike() {
        AskewLetters x = new AskewLetters();
        DUE.is("handLike of none", x.handLike(0), -1);
        x.hand(7000000050L);
        DUE.is("handLike of an empty page", x.handLike(0), 0);
        DUE.is("handLike -1", x.handLike(-1), -1);
        DUE.is("handLike 1", x.handLike(1), -1);
        int[][] strokes = {{1, 5, 6}, {1, 9, 2}, {1, 0, 1}, {9, 8, 5}, {9, 1, 1}, {0, 0, 6}, {2, 5, 1}, {2, 4, 2}};
        int sum = 0;
        for (int[] s : strokes) {
            x.stroke(s[0], 0, 0, 0, s[1]);
            sum += s[2];
            DUE.is("handLike with " + s[0] + " of " + s[1], x.handLike(0), sum);
        }
    }

    private static void whose() {
        AskewLetters x = new AskewLetters();
        x.stroke(0, 0, 0, 0, 4);
        DUE.is("whose without hands", x.whose(), -9);
        x.hand(2);
        x.hand(3);
        x.hand(5);
        DUE.is("whose, of equals the least", x.whose(), 1);
        x.stroke(0, 0, 0, 0, 9);
        DUE.is("whose then", x.whose(), 2);
        x.clear();
        DUE.is("whose on an empty page", x.whose(), 0);
    }

    private static void pale() {
        AskewLetters x = new AskewLetters();
        DUE.is("pale of none", x.pale(), -9);
        x.stroke(9, 0, 0, 0, 9);
        DUE.is("pale of one", x.pale(), 9);
        x.stroke(5, 0, 0, 0, 2);
        x.stroke(5, 0, 0, 0, 3);
        x.stroke(4, 0, 0, 0, 3);
        x.stroke(4, 0, 0, 0, 2);
        x.stroke(4, 0, 0, 0, 2);
        // 5 by 2 and 7 by 3: cut they were alike, too
        DUE.is("pale by the mean", x.pale(), 4);
        x.stroke(5, 0, 0, 0, 0);
        DUE.is("pale then", x.pale(), 5);
        x.stroke(3, 0, 0, 0, 5);
        x.stroke(3, 0, 0, 0, 0);
        x.stroke(3, 0, 0, 0, 0);
        DUE.is("pale, of equals the least", x.pale(), 3);
    }

    private static void strokeIs(AskewLetters x, int i, int... dues) {
        for (int what = 0; what < dues.length; what++) {
            DUE.is("typed stroke " + i + ", " + what, x.strokeOf(i, what), dues[what]);
        }
    }

    private static void type() {
        AskewLetters x = Due.with("m1;m1;k0+1;k7-3;b10@50+2;n17@50:1;c13;");
        x.rate(7, 8);
        x.hand(9876543210L);
        x.hand(1234567890L);
        x.stroke(5, 0, 0, 0, 0);
        DUE.is("type", x.type(1, 51, 1, 100707, 77), 7);
        // 51 is of day 2 of the week: cleaned 6 days ago
        strokeIs(x, 1, 7, 7, 2, 12, 3, 1);
        strokeIs(x, 2, 0, 13, 0, 6, 0, 1);
        strokeIs(x, 3, 7, 7, 2, 12, 3, 0);
        strokeIs(x, 4, 0, 13, 0, 6, 0, 0);
        strokeIs(x, 5, 0, 13, 0, 6, 0, 0);
        strokeIs(x, 6, 1, 10, 0, 6, 9, 1);
        DUE.is("type one more", x.type(0, 0, 0, 9, 0), 8);
        strokeIs(x, 7, 9, 10, 0, 0, 9, 1);
    }

    private static void typeWanders() {
        AskewLetters x = Due.with("m1;k8+8;k9-9;");
        x.hand(0);
        x.set(3, 3);
        DUE.is("type, seed 5", x.type(0, 0, 0, 1111, 5), 4);
        int[] five = {7, 9, 7, 8};
        DUE.is("type, seed -1", x.type(0, 0, 0, 11111, -1), 9);
        int[] minus = {13, 7, 9, 9, 9};
        for (int i = 0; i < 9; i++) {
            DUE.is("wandered " + i, x.strokeOf(i, 1), i < 4 ? five[i] : minus[i - 4]);
        }
        x.clear();
        x.set(3, 1);
        x.type(0, 0, 0, 11111, Integer.MIN_VALUE);
        int[] one = {11, 9, 9, 11, 10};
        x.set(3, 2);
        x.type(0, 0, 0, 1111111111, 12345);
        int[] two = {8, 9, 12, 12, 11, 11, 11, 12, 10, 11};
        for (int i = 0; i < 15; i++) {
            DUE.is("wandered less " + i, x.strokeOf(i, 1), i < 5 ? one[i] : two[i - 5]);
        }
        x.clear();
        x.type(0, 0, 0, 888999, 12345);
        // -9 by -2, -1, 2 and 8 by 2, 1, 1
        int[] held = {1, 1, 3, 19, 19, 19};
        for (int i = 0; i < 6; i++) {
            DUE.is("held " + i, x.strokeOf(i, 1), held[i]);
        }
    }

    private static void typeRefusals() {
        AskewLetters x = Due.with("m1;");
        DUE.is("type without a hand", x.type(0, 0, 0, 1, 0), -1);
        x.hand(0);
        int[][] calls = {{1, -1, 0, 0}, {-1, 0, 0, 1}, {0, 0, 1, 0}, {0, 0, -1, 1}, {0, 366, 0, 0}, {0, 0, 0, -5},
            {0, -1, 0, 1}, {0, 366, 0, 1}};
        int[] dues = {-1, -1, -1, -1, -4, -4, -4, -6};
        for (int i = 0; i < calls.length; i++) {
            int[] c = calls[i];
            DUE.is("type refused " + i, x.type(c[0], c[1], c[2], c[3], 0), dues[i]);
        }
        DUE.is("type 10", x.type(0, 0, 0, Integer.MAX_VALUE, 0), 10);
        DUE.is("type 20", x.type(0, 0, 0, 1000000000, 0), 20);
        DUE.is("type 29", x.type(0, 365, 0, 999999999, 0), 29);
        DUE.is("no room for 2", x.type(0, 0, 0, 10, 0), -6);
        DUE.is("none of them came", x.count(2), 29);
        DUE.is("room for 1", x.type(0, 0, 0, 9, 0), 30);
        DUE.is("no room for 1", x.type(0, 0, 0, 1, 0), -6);
        DUE.is("below goes ahead", x.type(0, -1, 0, 1, 0), -4);
    }
}
