/** Promises 36 to 38: image, on, count. */
final class ImageTest {
    private static final Due DUE = new Due("ImageTest");

    public static void main(String[] args) {
        noImage();
        allIsAsThen();
        imagesOfImages();
        counts();
        DUE.end();
    }

    private static void noImage() {
        AskewLetters x = new AskewLetters();
        DUE.is("on without an image", x.on(), -3);
        DUE.is("refusals -3", x.count(13), 1);
        DUE.is("image of nothing", x.image(), 0);
        Due.bookOf(x, "m1;m2;");
        DUE.is("on", x.on(), 0);
        DUE.is("machines", x.count(0), 0);
        DUE.is("refusals stay", x.count(13), 1);
    }

    private static AskewLetters busy() {
        AskewLetters x = Due.with("m1;m7;k1+2;b01@10+1;n11@5:2;c03;c14;");
        x.rate(1, 7);
        x.set(0, 3);
        x.set(1, 30);
        x.set(2, 9);
        x.set(3, 2);
        x.set(4, 2);
        x.hand(1234567890L);
        x.hand(42);
        x.stroke(1, 3, 4, 5, 6);
        x.stroke(2, 1, 0, 1, 2);
        x.stroke(3, 0, 0, 0, 0);
        x.known(3, 1);
        x.known(2, 1);
        return x;
    }

    private static void isBusy(AskewLetters x) {
        long[] got = {x.count(0), x.count(1), x.count(2), x.count(3), x.count(4), x.count(7), x.lean(0, 1, 10),
            x.lean(1, 1, 10), x.nicks(1, 1, 5), x.dirt(0, 1, 9), x.dirt(1, 1, 9), x.dirt(1, 2, 9), x.odds(1, 365, 0),
            x.odds(1, 365, 1), x.odds(6, 365, 0), x.strokeOf(0, 1), x.strokeOf(0, 2), x.strokeOf(0, 3), x.strokeOf(0, 4),
            x.handLike(0), x.handLike(1), x.over(0), x.over(1), x.readBack(0), x.laid(), x.reader(0), x.reader(1)};
        AskewLetters y = busy();
        long[] due = {2, 2, 3, 3, 2, 2, 3,
            2, 4, 10, 8, 5, y.odds(1, 365, 0),
            y.odds(1, 365, 1), y.odds(6, 365, 0), 13, 4, 5, 6,
            5, 14, 1, 2, 1, 1, 3, 2};
        for (int i = 0; i < got.length; i++) {
            DUE.is("busy " + i, got[i], due[i]);
        }
    }

    private static void spoil(AskewLetters x) {
        Due.bookOf(x, "m3;k1-5;b01@0-9;n11@0:0;s01@10;c05;c15;");
        for (int sign = 0; sign < 10; sign++) {
            x.rate(sign, 1);
        }
        for (int what = 0; what < 5; what++) {
            x.set(what, 1);
        }
        x.hand(0);
        x.clear();
        x.stroke(9, 9, 9, 9, 9);
        x.known(-9, 9);
    }

    private static void allIsAsThen() {
        AskewLetters x = busy();
        isBusy(x);
        DUE.is("image", x.image(), 2);
        isBusy(x);
        spoil(x);
        DUE.is("spoiled machines", x.count(0), 3);
        Due.feedText(x, "m4;");
        x.row(1);
        x.row(2);
        x.rate(10, 0);
        DUE.is("on", x.on(), 2);
        isBusy(x);
        for (int what = 0; what < 5; what++) {
            int[] due = {3, 30, 9, 2, 2};
            DUE.is("set as then " + what, x.set(what, 1), due[what]);
        }
        DUE.is("rate 1 as then", x.rate(1, 0), 7);
        DUE.is("rate 2 as then", x.rate(2, 0), 4);
        DUE.is("the tape stays", x.count(6), 3);
        DUE.is("the row stays", x.count(5), 2);
        DUE.is("refusals stay", x.count(11), 1);
        DUE.is("on again", x.on(), 2);
        isBusy(x);
        DUE.is("the tape is a book", x.book(), 1);
        DUE.is("three machines", x.count(0), 3);
        DUE.is("row and page", x.judge(), 2);
    }

    private static void imagesOfImages() {
        AskewLetters x = busy();
        x.image();
        spoil(x);
        DUE.is("a later image", x.image(), 3);
        x.clear();
        DUE.is("on from the later", x.on(), 3);
        DUE.is("its page", x.strokeOf(0, 0), 9);
        DUE.is("its strokes", x.count(2), 1);
        x.stroke(8, 0, 0, 0, 0);
        DUE.is("the image is not the page", x.on(), 3);
        DUE.is("its strokes again", x.count(2), 1);
    }

    private static void counts() {
        AskewLetters x = busy();
        Due.feedText(x, "m1;k");
        x.row(1);
        x.stroke(3, 0, 0, 0, 0);
        int[] due = {2, 2, 4, 3, 2, 1, 4, 2, -9, -9, -9, 0, 0, 0, 0, 0, 0, -9};
        for (int what = 0; what < due.length; what++) {
            DUE.is("count " + what, x.count(what), due[what]);
        }
        x.rate(10, 0);
        x.set(9, 0);
        x.set(9, 0);
        new AskewLetters().on();
        DUE.is("refused -1", x.count(11), 1);
        DUE.is("refused -2", x.count(12), 2);
        DUE.is("refused -3", x.count(13), 0);
        DUE.is("refused -5", x.count(15), 0);
        DUE.is("count -1", x.count(-1), -9);
        DUE.is("count least", x.count(Integer.MIN_VALUE), -9);
        DUE.is("count greatest", x.count(Integer.MAX_VALUE), -9);
        DUE.is("count is no refusal", x.count(12), 2);
    }
}
