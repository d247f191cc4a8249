/** Promises 36 to 38, THE IMAGE: image, on, count. */
final class ImageTest {
    public static void main(String[] args) {
        Due.run(ImageTest.class);
    }

    static void p36_howManyMachines() {
        AskewLetters x = new AskewLetters();
        Due.is("of none", x.image(), 0);
        for (int machines = 1; machines <= 6; machines++) {
            Due.bookOf(x, "m1;");
            Due.is("of " + machines, x.image(), machines);
        }
    }

    static void p36_takingItChangesNothing() {
        AskewLetters x = Due.with("m1;m2;b00@0+1;");
        Due.strike(x, 1, 2);
        x.row(1);
        Due.feedText(x, "m1;");
        x.image();
        int[] counts = {2, 1, 2, 2, 0, 1, 3, 0};
        for (int what = 0; what < counts.length; what++) {
            Due.is("count " + what, x.count(what), counts[what]);
        }
    }

    static void p36_aLaterOneTakesThePlace() {
        AskewLetters x = Due.with("m1;");
        x.image();
        Due.bookOf(x, "m1;");
        Due.is("image", x.image(), 2);
        Due.bookOf(x, "m1;");
        Due.is("on", x.on(), 2);
    }

    static void p36_whatComesLaterIsNotInIt() {
        AskewLetters x = Due.with("m1;");
        Due.strike(x, 4);
        x.image();
        Due.strike(x, 5);
        x.on();
        Due.strike(x, 6);
        x.on();
        Due.is("strokes", x.count(2), 1);
        Due.is("of sign", x.strokeOf(0, 0), 4);
    }

    static void p37_minus3ThereIsNone() {
        AskewLetters x = Due.with("m1;");
        Due.is("on", x.on(), -3);
        Due.is("on again", x.on(), -3);
        Due.is("machines", x.count(0), 1);
        Due.is("refusals", x.count(13), 2);
        x.image();
        Due.is("on from one", x.on(), 1);
    }

    static void p37_howManyMachinesAndAgainAndAgain() {
        AskewLetters x = Due.with("m1;m1;");
        x.image();
        Due.bookOf(x, "m1;");
        Due.is("on", x.on(), 2);
        Due.bookOf(x, "m1;m1;");
        Due.is("on again", x.on(), 2);
        Due.is("on at once", x.on(), 2);
    }

    static void p37_fromAnImageOfNothing() {
        AskewLetters x = new AskewLetters();
        x.image();
        Due.bookOf(x, "m1;k0+1;");
        Due.strike(x, 1);
        x.hand(1);
        x.known(1, 1);
        Due.is("on", x.on(), 0);
        int[] whats = {0, 1, 2, 3, 4, 7};
        for (int what : whats) {
            Due.is("count " + what, x.count(what), 0);
        }
        Due.bookOf(x, "m1;");
        Due.is("the make", x.lean(0, 0, 0), 0);
    }

    static void p37_machinesAreAsThen() {
        AskewLetters x = Due.with("m3;m1;c05;c16;");
        x.set(2, 0);
        x.image();
        Due.bookOf(x, "m9;c01;c12;c23;");
        Due.is("on", x.on(), 2);
        Due.is("count", x.count(0), 2);
        Due.is("their weights", x.odds(0, 0, 0), 3);
        Due.is("by all", x.odds(0, 0, 1), 4);
        Due.is("when they are cleaned: 0", x.dirt(0, 0, 5), 0);
        Due.is("when they are cleaned: 1", x.dirt(1, 0, 6), 0);
        Due.bookOf(x, "m9;");
        Due.is("a new one is cleaned on day 0", x.dirt(2, 0, 0), 0);
    }

    static void p37_theMakeIsAsThen() {
        AskewLetters x = Due.with("m1;k0+2;k9-3;");
        x.image();
        Due.bookOf(x, "k0-5;k9+5;k4+1;");
        x.on();
        Due.is("lean of 0", x.lean(0, 0, 0), 2);
        Due.is("lean of 4", x.lean(0, 4, 0), 0);
        Due.is("lean of 9", x.lean(0, 9, 0), -3);
    }

    static void p37_eventsAreAsThen() {
        AskewLetters x = Due.with("m1;m1;b00@10+4;n11@20:2;s02@30;");
        x.image();
        Due.bookOf(x, "s00@10;b00@5-1;n11@0:0;n11@20:1;b02@40+1;");
        x.on();
        Due.is("events", x.count(1), 3);
        Due.is("lean on 9", x.lean(0, 0, 9), 0);
        Due.is("lean on 10", x.lean(0, 0, 10), 4);
        Due.is("lean on 40", x.lean(0, 2, 40), 0);
        Due.is("nicks on 19", x.nicks(1, 1, 19), 0);
        Due.is("nicks on 20", x.nicks(1, 1, 20), 4);
    }

    static void p37_eventsThatAreToldThenComeBehindThem() {
        AskewLetters x = Due.with("m1;b00@10+4;");
        x.image();
        Due.bookOf(x, "b00@10+1;b00@10+1;");
        x.on();
        Due.bookOf(x, "s00@10;b00@10+2;");
        Due.is("lean", x.lean(0, 0, 10), 2);
    }

    static void p37_allThatIsSetIsAsThen() {
        AskewLetters x = new AskewLetters();
        int[] then = {3, 30, 9, 2, 7};
        for (int what = 0; what < 5; what++) {
            x.set(what, then[what]);
        }
        x.image();
        for (int what = 0; what < 5; what++) {
            x.set(what, 1);
        }
        x.on();
        for (int what = 0; what < 5; what++) {
            Due.is("set " + what, x.set(what, 1), then[what]);
        }
    }

    static void p37_allThatIsSetTheRatesToo() {
        AskewLetters x = new AskewLetters();
        for (int sign = 0; sign < 10; sign++) {
            x.rate(sign, 9 - sign);
        }
        x.image();
        for (int sign = 0; sign < 10; sign++) {
            x.rate(sign, 4);
        }
        x.on();
        for (int sign = 0; sign < 10; sign++) {
            Due.is("rate " + sign, x.rate(sign, 4), 9 - sign);
        }
    }

    static void p37_handsAreAsThen() {
        AskewLetters x = new AskewLetters();
        x.hand(9);
        x.image();
        x.hand(5);
        x.on();
        Due.is("hands", x.count(4), 1);
        Due.is("another in its place", x.hand(3), 1);
        x.stroke(0, 0, 0, 0, 3);
        Due.is("like of the first", x.handLike(0), 1);
        Due.is("like of the other", x.handLike(1), 6);
        x.on();
        Due.is("hands again", x.count(4), 1);
    }

    static void p37_thePageIsAsThen() {
        AskewLetters x = new AskewLetters();
        x.stroke(3, -2, 5, 11, 8);
        x.stroke(4, 1, 6, 12, 7);
        x.image();
        x.clear();
        x.stroke(9, 9, 9, 9, 9);
        x.on();
        Due.is("strokes", x.count(2), 2);
        int[][] dues = {{3, 8, 5, 11, 8, 1}, {4, 11, 6, 12, 7, 1}};
        for (int i = 0; i < 2; i++) {
            for (int what = 0; what < 6; what++) {
                Due.is("strokeOf " + i + " " + what, x.strokeOf(i, what), dues[i][what]);
            }
        }
    }

    static void p37_readersLeansAreAsThen() {
        AskewLetters x = new AskewLetters();
        x.known(3, 1);
        x.known(2, 1);
        x.image();
        x.known(-9, 9);
        x.on();
        Due.is("readers' leans", x.count(7), 2);
        Due.is("above", x.reader(0), 3);
        Due.is("below", x.reader(1), 2);
    }

    static void p37_theTapeStays() {
        AskewLetters x = new AskewLetters();
        Due.feedText(x, "m1;");
        x.image();
        Due.feedText(x, "m2;m3;");
        x.on();
        Due.is("bytes", x.count(6), 9);
        Due.is("book", x.book(), 3);
        x.on();
        Due.is("no bytes", x.count(6), 0);
    }

    static void p37_theRowStays() {
        AskewLetters x = new AskewLetters();
        Due.strike(x, 1, 2);
        x.row(1);
        x.image();
        x.row(2);
        x.on();
        Due.is("signs in the row", x.count(5), 2);
        Due.is("judge", x.judge(), -9);
        x.on();
        Due.is("no signs in the row", x.count(5), 0);
    }

    static void p37_refusalsStay() {
        AskewLetters x = new AskewLetters();
        x.rate(10, 0);
        x.image();
        x.rate(10, 0);
        x.set(9, 0);
        x.on();
        Due.is("refusals -1", x.count(11), 2);
        Due.is("refusals -2", x.count(12), 1);
        Due.is("refusals -3", x.count(13), 0);
    }

    static void p37_whatIsFullIsFullAgain() {
        AskewLetters x = Due.with("m1;m1;m1;m1;m1;m1;", "s00@0;s00@0;s00@0;s00@0;s00@0;s00@0;s00@0;s00@0;s00@0;s00@0;",
            "s00@0;s00@0;s00@0;s00@0;s00@0;s00@0;s00@0;s00@0;s00@0;s00@0;");
        for (int i = 0; i < 30; i++) {
            Due.strike(x, i % 10);
        }
        for (int i = 0; i < 4; i++) {
            x.hand(i);
        }
        for (int i = 0; i < 20; i++) {
            x.known(1, 0);
        }
        x.image();
        x.clear();
        Due.is("on", x.on(), 6);
        int[] whats = {0, 1, 2, 3, 4, 7};
        int[] counts = {6, 20, 30, 5, 4, 20};
        for (int i = 0; i < whats.length; i++) {
            Due.is("count " + whats[i], x.count(whats[i]), counts[i]);
        }
        Due.is("no machine more", Due.bookOf(x, "m1;"), -2000);
        Due.is("no event more", Due.bookOf(x, "s00@0;"), -2000);
        Due.is("no stroke more", x.stroke(0, 0, 0, 0, 0), -6);
        Due.is("no hand more", x.hand(0), -6);
        Due.is("no reader's lean more", x.known(0, 0), -6);
    }

    static void p38_eachWhatItsOwn() {
        AskewLetters x = Due.with("m1;m7;k1+2;b01@10+1;n11@5:2;s00@7;c03;");
        Due.strike(x, 1, 2, 3, 1, 2);
        x.hand(1);
        x.hand(2);
        x.hand(3);
        x.row(1);
        Due.feedText(x, "m1;kk");
        for (int i = 0; i < 7; i++) {
            x.known(0, 0);
        }
        int[] dues = {2, 3, 5, 3, 3, 1, 5, 7};
        for (int what = 0; what < dues.length; what++) {
            Due.is("count " + what, x.count(what), dues[what]);
        }
    }

    static void p38_strokesThatCountAre5AtMost() {
        AskewLetters x = new AskewLetters();
        int[] dues = {1, 2, 3, 4, 5, 5, 5, 5, 5, 5};
        for (int i = 0; i < 10; i++) {
            Due.strike(x, 9 - i);
            Due.is("count of " + (i + 1), x.count(3), dues[i]);
            Due.strike(x, 9 - i);
            Due.is("count of a second one of each", x.count(3), dues[i]);
        }
    }

    static void p38_refusalsEachItsOwn() {
        AskewLetters x = new AskewLetters();
        for (int i = 0; i < 6; i++) {
            x.rate(10, 0);
            x.set(i == 0 ? 5 : i < 5 ? -1 : 0, 0);
            if (i < 4) {
                x.on();
            }
            if (i < 3) {
                x.row(-1);
            }
            if (i < 2) {
                x.row(10);
            }
        }
        int[] dues = {6, 5, 4, 3, 0, 2};
        for (int i = 0; i < 6; i++) {
            Due.is("refusals " + (-1 - i), x.count(11 + i), dues[i]);
        }
    }

    static void p38_minus9ForAnotherWhatAndNoRefusal() {
        AskewLetters x = new AskewLetters();
        int[] others = {-1, 8, 9, 10, 17, 18, Integer.MIN_VALUE, Integer.MAX_VALUE};
        for (int other : others) {
            Due.is("count " + other, x.count(other), -9);
        }
        for (int what = 11; what <= 16; what++) {
            Due.is("refusals " + what, x.count(what), 0);
        }
    }
}
