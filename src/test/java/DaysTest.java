/** Promises 18 to 21: when, most, sittings, gain. */
final class DaysTest {
    private static final Due DUE = new Due("DaysTest");

    public static void main(String[] args) {
        when();
        most();
        mostOfOneDay();
        sittings();
        sittingsOfOneDay();
        refusals();
        DUE.end();
    }

    private static void whenIs(AskewLetters x, int tenth, long above, long below) {
        DUE.is("when " + tenth, x.when(0, tenth, 0), above);
        DUE.is("when below the line " + tenth, x.when(0, tenth, 1), below);
    }

    private static void when() {
        AskewLetters x = Due.with("m1;b00@100+4;");
        whenIs(x, 36, 1, 37);
        x.stroke(0, 4, 0, 0, 0);
        // 10 days of 4 and 27 of 20
        whenIs(x, 0, 1, 145);
        whenIs(x, 9, 1, 145);
        whenIs(x, 10, 1, 29);
        whenIs(x, 36, 1, 29);
        x.set(1, 0);
        whenIs(x, 10, 1, 37);
    }

    private static void mostIs(AskewLetters x, int most, int first, int last) {
        DUE.is("most", x.most(0, 0), most);
        DUE.is("first", x.most(0, 1), first);
        DUE.is("last", x.most(0, 2), last);
    }

    private static void most() {
        AskewLetters x = Due.with("m1;b00@100+4;b00@201+4;");
        mostIs(x, 0, 0, 360);
        x.stroke(0, 4, 0, 0, 0);
        mostIs(x, 100, 100, 200);
        x.set(0, 6);
        // 12 ahead, 28, 12 behind
        mostIs(x, 100, 100, 200);
        x.set(0, 7);
        // 16 ahead, 32, 16 behind: half is enough
        mostIs(x, 100, 0, 360);
    }

    private static void mostOfOneDay() {
        int[] days = {0, 10, 180, 350, 360};
        for (int day : days) {
            AskewLetters x = Due.with("m1;b00@" + day + "+4;" + (day < 360 ? "s00@" + (day + 1) + ";" : ""));
            x.stroke(0, 4, 0, 0, 0);
            mostIs(x, day, day, day);
            // one day of 20 and 36 of 4
            whenIs(x, day / 10, 5, 41);
        }
    }

    private static void sittingsOfOneDay() {
        int[] days = {0, 10, 180, 350, 360};
        for (int day : days) {
            AskewLetters x = Due.with("m1;b00@" + day + "+4;" + (day < 360 ? "s00@" + (day + 1) + ";" : ""));
            x.stroke(0, 0, 0, 0, 0);
            x.stroke(0, 0, 0, 0, 0);
            x.stroke(0, 4, 0, 0, 0);
            // at 1: 20 times 20 of the second; at 2: 20 times 20 of the third
            splitIs(x, 1, 20);
            x.clear();
            x.stroke(0, 9, 15, 0, 0);
            x.stroke(0, 4, 0, 0, 0);
            // the whole page is 1
            splitIs(x, 1, 20);
        }
        AskewLetters y = Due.with("m1;");
        y.stroke(0, 9, 15, 0, 0);
        y.stroke(0, -9, 15, 0, 0);
        splitIs(y, 1, 1);
        y.clear();
        for (int i = 0; i < 30; i++) {
            y.stroke(i % 10, 0, 0, 0, 0);
        }
        // 5 signs ahead and 5 behind
        splitIs(y, 5, 3200000);
    }

    private static void sittings() {
        AskewLetters x = Due.with("m1;b00@100+4;s00@200;");
        x.stroke(0, 4, 0, 0, 0);
        x.stroke(0, 0, 0, 0, 0);
        splitIs(x, 1, 20);
        x.set(1, 0);
        splitIs(x, 1, 20);
        x.set(1, 31);
        splitIs(x, 1, 20);
        x.clear();
        x.stroke(0, 4, 0, 0, 0);
        x.stroke(0, 4, 0, 0, 0);
        x.stroke(1, 0, 0, 0, 0);
        // at 1: 20 times 400; at 2: 20 times 20
        splitIs(x, 1, 20);
        x.clear();
        x.stroke(0, 4, 0, 0, 0);
        x.stroke(1, 0, 0, 0, 0);
        x.stroke(0, 0, 0, 0, 0);
        // at 1: 20 times 400; at 2: 400 times 20
        splitIs(x, 1, 20);
        x.clear();
        x.stroke(0, 4, 0, 0, 0);
        x.stroke(0, 4, 0, 0, 0);
        x.stroke(0, 9, 0, 0, 0);
        x.stroke(0, 0, 0, 0, 0);
        // at 1 20 times 20, at 2 20 times 4, at 3 20 times 20
        splitIs(x, 1, 20);
        x.clear();
        x.stroke(0, 9, 0, 0, 0);
        x.stroke(1, 0, 0, 0, 0);
        x.stroke(0, 4, 0, 0, 0);
        x.stroke(0, 0, 0, 0, 0);
        // at 1: 4 times 400; at 2: 80 times 20; at 3: 80 times 20
        splitIs(x, 1, 20);
        x.clear();
        x.stroke(0, 0, 0, 0, 0);
        x.stroke(1, 9, 1, 0, 0);
        x.stroke(0, 4, 0, 0, 0);
        x.stroke(1, 0, 0, 0, 0);
        // at 1: 20 times 20; at 2: 20 times 400; at 3: 20 times 20
        splitIs(x, 2, 400);
    }

    private static void splitIs(AskewLetters x, int place, int gain) {
        DUE.is("sittings", x.sittings(0), place);
        DUE.is("gain", x.gain(0), gain);
    }

    private static void refusals() {
        AskewLetters x = Due.with("m1;");
        int[][] calls = {{1, -1, 2}, {-1, 0, 0}, {0, -1, 2}, {0, 37, -1}, {0, -1, 0}, {0, 37, 1}};
        int[] dues = {-1, -1, -2, -2, -4, -6};
        for (int i = 0; i < calls.length; i++) {
            DUE.is("when refused " + i, x.when(calls[i][0], calls[i][1], calls[i][2]), Due.far(dues[i]));
        }
        DUE.is("most of nobody", x.most(1, 3), -1);
        DUE.is("most 3", x.most(0, 3), -2);
        DUE.is("most -1", x.most(0, -1), -2);
        for (int strokes = 0; strokes < 2; strokes++) {
            DUE.is("sittings of nobody", x.sittings(1), -1);
            DUE.is("gain of nobody", x.gain(-1), -1);
            DUE.is("sittings of " + strokes, x.sittings(0), -3);
            DUE.is("gain of " + strokes, x.gain(0), -3);
            x.stroke(0, 0, 0, 0, 0);
        }
        DUE.is("refusals -3", x.count(13), 4);
    }
}
