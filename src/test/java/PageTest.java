/** Promises 9 to 14: stroke, strokeOf, clear, factor, like, copy. */
final class PageTest {
    private static final Due DUE = new Due("PageTest");

    public static void main(String[] args) {
        strokes();
        strokeRefusals();
        counting();
        factors();
        factorRefusals();
        likes();
        likeRefusals();
        DUE.end();
    }

    private static void strokes() {
        AskewLetters x = new AskewLetters();
        DUE.is("stroke least", x.stroke(0, -9, 0, 0, 0), 1);
        DUE.is("stroke greatest", x.stroke(9, 9, 15, 13, 9), 2);
        int[] least = {0, 1, 0, 0, 0, 1};
        int[] greatest = {9, 19, 15, 13, 9, 1};
        for (int what = 0; what < 6; what++) {
            DUE.is("strokeOf 0 " + what, x.strokeOf(0, what), least[what]);
            DUE.is("strokeOf 1 " + what, x.strokeOf(1, what), greatest[what]);
        }
        DUE.is("strokeOf 2", x.strokeOf(2, 0), -1);
        DUE.is("strokeOf -1", x.strokeOf(-1, 9), -1);
        DUE.is("strokeOf what 6", x.strokeOf(0, 6), -2);
        DUE.is("strokeOf what -1", x.strokeOf(1, -1), -2);
        DUE.is("clear", x.clear(), 2);
        DUE.is("clear again", x.clear(), 0);
        DUE.is("strokeOf when cleared", x.strokeOf(0, 0), -1);
        DUE.is("stroke anew", x.stroke(9, 0, 0, 0, 0), 1);
        DUE.is("counts anew", x.strokeOf(0, 5), 1);
    }

    private static void strokeRefusals() {
        AskewLetters x = new AskewLetters();
        int[][] calls = {{-1, -10, 16, 0, 0}, {10, 0, 0, 0, 0}, {0, -10, 0, 0, 0}, {0, 0, -1, 0, 0}, {0, 0, 0, -1, 0},
            {0, 0, 0, 0, -1}, {0, 10, 0, 0, -1}, {0, 10, 0, 0, 0}, {0, 0, 16, 0, 0}, {0, 0, 0, 14, 0}, {0, 0, 0, 0, 10}};
        int[] dues = {-1, -1, -4, -4, -4, -4, -4, -6, -6, -6, -6};
        for (int i = 0; i < calls.length; i++) {
            int[] c = calls[i];
            DUE.is("stroke refused " + i, x.stroke(c[0], c[1], c[2], c[3], c[4]), dues[i]);
        }
        DUE.is("none came", x.count(2), 0);
        for (int i = 1; i <= 30; i++) {
            DUE.is("stroke", x.stroke(i % 10, 0, 0, 0, 0), i);
        }
        DUE.is("stroke 31", x.stroke(0, 0, 0, 0, 0), -6);
        DUE.is("stroke 31 below", x.stroke(0, -10, 0, 0, 0), -4);
        DUE.is("stroke 31 of no sign", x.stroke(10, 0, 0, 0, 0), -1);
        DUE.is("clear 30", x.clear(), 30);
    }

    private static void counting() {
        AskewLetters x = new AskewLetters();
        int[] signs = {7, 7, 3, 7, 0, 9, 3, 1, 2, 4, 2};
        int[] counts = {1, 0, 1, 0, 1, 1, 0, 1, 0, 0, 0};
        for (int sign : signs) {
            x.stroke(sign, 0, 0, 0, 0);
        }
        for (int i = 0; i < signs.length; i++) {
            DUE.is("counts " + i, x.strokeOf(i, 5), counts[i]);
        }
        DUE.is("how many count", x.count(3), 5);
    }

    private static AskewLetters nicked() {
        AskewLetters x = Due.with("m1;k1+2;b01@10+1;n01@10:0;n01@10:2;");
        x.stroke(1, 3, 5, 3, 0);
        x.stroke(1, -9, 1, 0, 0);
        x.stroke(2, -4, 0, 10, 0);
        return x;
    }

    private static void factors() {
        AskewLetters x = nicked();
        // {stroke, day} and its five factors
        int[][] rows = {{0, 10, 1, 5, 4, 3, 5}, {0, 0, 1, 4, 1, 2, 1}, {1, 10, 1, 1, 2, 2, 1}, {1, 0, 1, 1, 1, 3, 1},
            {2, 10, 1, 1, 4, 1, 1}, {0, 12, 1, 5, 4, 2, 5}, {0, 11, 1, 5, 4, 3, 5}};
        for (int[] r : rows) {
            for (int kind = 0; kind < 5; kind++) {
                DUE.is("factor of " + r[0] + " on " + r[1] + " kind " + kind, x.factor(r[0], 0, r[1], kind), r[2 + kind]);
            }
        }
        x.set(0, 0);
        DUE.is("standing without slip", x.factor(0, 0, 10, 1), 1);
        DUE.is("made without slip", x.factor(0, 0, 10, 4), 1);
        x.set(0, 8);
        DUE.is("standing, slip 8", x.factor(0, 0, 10, 1), 9);
        DUE.is("standing, off 1", x.factor(0, 0, 0, 1), 8);
        DUE.is("made, slip 8", x.factor(0, 0, 10, 4), 9);
        DUE.is("made as the make", x.factor(0, 0, 0, 4), 1);
        DUE.is("standing, off 4", x.factor(2, 0, 0, 1), 5);
    }

    private static void factorRefusals() {
        AskewLetters x = nicked();
        int[][] calls = {{3, 0, 0, 0}, {-1, 0, 0, 0}, {0, 1, 0, 0}, {0, -1, -1, 9}, {0, 0, -1, 5}, {0, 0, 366, -1},
            {0, 0, -1, 0}, {0, 0, 366, 4}};
        int[] dues = {-1, -1, -1, -1, -2, -2, -4, -6};
        for (int i = 0; i < calls.length; i++) {
            int[] c = calls[i];
            DUE.is("factor refused " + i, x.factor(c[0], c[1], c[2], c[3]), dues[i]);
        }
    }

    private static void likes() {
        AskewLetters x = nicked();
        DUE.is("like", x.like(0, 10), 20 * 4);
        DUE.is("copy", x.copy(0, 10), 5);
        int[] used = {0, 1, 2, 4, 8, 16, 12, 18, 31};
        long[] likes = {1, 1, 5, 16, 3, 5, 48, 25, 5 * 4 * 3 * 5 * 4};
        long[] copies = {1, 1, 5, 1, 1, 5, 1, 25, 25};
        for (int i = 0; i < used.length; i++) {
            x.set(1, used[i]);
            DUE.is("like by " + used[i], x.like(0, 10), likes[i]);
            DUE.is("copy by " + used[i], x.copy(0, 10), copies[i]);
        }
        AskewLetters y = Due.with("m1;");
        DUE.is("like of nothing", y.like(0, 0), 1);
        DUE.is("copy of nothing", y.copy(0, 0), 1);
        for (int sign = 0; sign < 10; sign++) {
            y.stroke(sign, 0, 0, 0, 0);
        }
        DUE.is("like of 5 signs", y.like(0, 0), 3200000);
        DUE.is("copy of 5 signs", y.copy(0, 0), 3125);
    }

    private static void likeRefusals() {
        AskewLetters x = Due.with("m1;");
        int[][] calls = {{-1, 0}, {1, -1}, {6, 0}, {0, -1}, {0, 366}};
        int[] dues = {-1, -1, -1, -4, -6};
        for (int i = 0; i < calls.length; i++) {
            DUE.is("like refused " + i, x.like(calls[i][0], calls[i][1]), Due.far(dues[i]));
            DUE.is("copy refused " + i, x.copy(calls[i][0], calls[i][1]), Due.far(dues[i]));
        }
        DUE.is("refusals -1", x.count(11), 6);
    }
}
