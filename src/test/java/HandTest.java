/** Promises 24 to 28: hand, handLike, whose, pale, type. */
final class HandTest {
    public static void main(String[] args) {
        Due.run(HandTest.class);
    }

    static void p24_itsNumberFourAtMost() {
        AskewLetters x = new AskewLetters();
        for (int hand = 0; hand < 4; hand++) {
            Due.is("hand", x.hand(hand), hand);
            Due.is("hands", x.count(4), hand + 1);
        }
        Due.is("the fifth", x.hand(0), -6);
        Due.is("hands", x.count(4), 4);
    }

    static void p24_forcesAre0To9999999999() {
        AskewLetters x = new AskewLetters();
        Due.is("least", x.hand(0), 0);
        Due.is("greatest", x.hand(9999999999L), 1);
        Due.is("below", x.hand(-1), -4);
        Due.is("above", x.hand(10000000000L), -6);
        Due.strike(x, 0, 9);
        Due.is("like of the least", x.handLike(0), 12);
        Due.is("like of the greatest", x.handLike(1), 2);
    }

    static void p24_sign0IsTheLowestOf10Digits() {
        AskewLetters x = Due.with("m1;");
        x.hand(9876543210L);
        x.hand(321);
        x.type(0, 0, 0, 1234567890, 0);
        x.type(0, 0, 1, 1234567890, 0);
        int[] small = {1, 0, 0, 0, 0, 0, 0, 0, 3, 2};
        for (int i = 0; i < 10; i++) {
            Due.is("force of sign " + x.strokeOf(i, 0), x.strokeOf(i, 4), x.strokeOf(i, 0));
            Due.is("force by a few digits", x.strokeOf(10 + i, 4), small[i]);
        }
    }

    static void p25_sixLessHowFarItsForceIsOffAtLeast1() {
        int[] dues = {1, 2, 3, 4, 5, 6, 5, 4, 3, 2};
        for (int force = 0; force <= 9; force++) {
            AskewLetters x = new AskewLetters();
            x.hand(50);
            x.stroke(1, 0, 0, 0, force);
            Due.is("handLike of 5 by " + force, x.handLike(0), dues[force]);
        }
        AskewLetters y = new AskewLetters();
        y.hand(9);
        y.stroke(0, 0, 0, 0, 0);
        Due.is("off by 9", y.handLike(0), 1);
    }

    static void p25_allTogetherBySum() {
        AskewLetters x = new AskewLetters();
        x.hand(7000000050L);
        int[][] strokes = {{1, 5, 6}, {1, 9, 2}, {1, 0, 1}, {9, 8, 5}, {9, 1, 1}, {0, 0, 6}, {2, 5, 1}, {2, 4, 2}};
        int sum = 0;
        for (int[] s : strokes) {
            x.stroke(s[0], 0, 0, 0, s[1]);
            sum += s[2];
            Due.is("handLike with " + s[0] + " of " + s[1], x.handLike(0), sum);
        }
    }

    static void p25_eachStrokeNotTheFirstOfItsSignAlone() {
        AskewLetters x = new AskewLetters();
        x.hand(0);
        for (int i = 0; i < 30; i++) {
            Due.strike(x, i % 10);
        }
        Due.is("handLike of 30", x.handLike(0), 180);
    }

    static void p25_ofAnEmptyPage0() {
        AskewLetters x = new AskewLetters();
        x.hand(5);
        Due.is("handLike", x.handLike(0), 0);
    }

    static void p26_theHandWithTheGreatest() {
        AskewLetters x = new AskewLetters();
        x.hand(1);
        x.hand(2);
        x.hand(3);
        x.hand(9);
        int[] forces = {1, 2, 3, 9};
        for (int hand = 0; hand < 4; hand++) {
            x.clear();
            x.stroke(0, 0, 0, 0, forces[hand]);
            Due.is("whose by " + forces[hand], x.whose(), hand);
        }
    }

    static void p26_ofSeveralTheLeast() {
        AskewLetters x = new AskewLetters();
        x.stroke(0, 0, 0, 0, 4);
        x.hand(2);
        x.hand(3);
        x.hand(5);
        Due.is("hands 1 and 2", x.whose(), 1);
        x.clear();
        Due.is("all of an empty page", x.whose(), 0);
    }

    static void p26_minus9None() {
        AskewLetters x = new AskewLetters();
        Due.is("of an empty page", x.whose(), -9);
        x.stroke(0, 0, 0, 0, 4);
        Due.is("of a stroke", x.whose(), -9);
        x.hand(9);
        Due.is("with a hand", x.whose(), 0);
    }

    static void p27_theLeastMeanIsNotCut() {
        AskewLetters x = new AskewLetters();
        x.stroke(4, 0, 0, 0, 3);
        x.stroke(4, 0, 0, 0, 2);
        x.stroke(5, 0, 0, 0, 2);
        x.stroke(5, 0, 0, 0, 3);
        x.stroke(5, 0, 0, 0, 2);
        // 5 by 2 and 7 by 3
        Due.is("pale", x.pale(), 5);
    }

    static void p27_theMeanNotTheSumNorTheLeast() {
        AskewLetters x = new AskewLetters();
        x.stroke(0, 0, 0, 0, 0);
        x.stroke(0, 0, 0, 0, 9);
        x.stroke(1, 0, 0, 0, 3);
        x.stroke(1, 0, 0, 0, 4);
        x.stroke(1, 0, 0, 0, 4);
        // 9 by 2 and 11 by 3
        Due.is("pale", x.pale(), 1);
    }

    static void p27_theMeanOfFewAndOfMany() {
        AskewLetters x = new AskewLetters();
        x.stroke(0, 0, 0, 0, 2);
        x.stroke(1, 0, 0, 0, 2);
        x.stroke(1, 0, 0, 0, 2);
        x.stroke(1, 0, 0, 0, 3);
        // 2 by 1 and 7 by 3
        Due.is("pale of few", x.pale(), 0);
        x.stroke(2, 0, 0, 0, 1);
        x.stroke(2, 0, 0, 0, 1);
        x.stroke(2, 0, 0, 0, 3);
        // 5 by 3
        Due.is("pale of many", x.pale(), 2);
    }

    static void p27_ofSeveralTheLeast() {
        AskewLetters x = new AskewLetters();
        x.stroke(7, 0, 0, 0, 1);
        x.stroke(3, 0, 0, 0, 2);
        x.stroke(3, 0, 0, 0, 0);
        x.stroke(8, 0, 0, 0, 1);
        Due.is("pale", x.pale(), 3);
    }

    static void p27_ofSignsOnThePageAlone() {
        AskewLetters x = new AskewLetters();
        x.stroke(9, 0, 0, 0, 9);
        Due.is("the last sign", x.pale(), 9);
        x.stroke(0, 0, 0, 0, 8);
        Due.is("the first sign", x.pale(), 0);
    }

    static void p27_eachStrokeOfEachSign() {
        AskewLetters x = new AskewLetters();
        for (int sign = 0; sign < 7; sign++) {
            x.stroke(sign, 0, 0, 0, 5);
        }
        x.stroke(6, 0, 0, 0, 4);
        Due.is("pale", x.pale(), 6);
    }

    static void p27_minus9WithoutStrokes() {
        AskewLetters x = new AskewLetters();
        Due.is("pale", x.pale(), -9);
        Due.strike(x, 0);
        x.clear();
        Due.is("pale of a cleared page", x.pale(), -9);
    }

    private static void strokeIs(AskewLetters x, int i, int... dues) {
        for (int what = 0; what < dues.length; what++) {
            Due.is("typed stroke " + i + ", " + what, x.strokeOf(i, what), dues[what]);
        }
    }

    static void p28_eachSignOneStrokeMoreTheLowestFirst() {
        AskewLetters x = Due.with("m1;");
        x.hand(0);
        x.stroke(5, 0, 0, 0, 0);
        Due.is("type", x.type(0, 0, 0, 100703, 77), 7);
        int[] signs = {5, 3, 0, 7, 0, 0, 1};
        for (int i = 0; i < signs.length; i++) {
            Due.is("sign " + i, x.strokeOf(i, 0), signs[i]);
        }
        Due.is("one sign more", x.type(0, 0, 0, 1, 77), 8);
        Due.is("of sign 1", x.strokeOf(7, 0), 1);
    }

    static void p28_leanNicksDirtAsTheyAreForceOfTheHand() {
        AskewLetters x = Due.with("m1;m1;k0+1;k7-3;b10@50+2;n17@50:1;c13;");
        x.rate(7, 8);
        x.hand(9876543210L);
        x.hand(1234567890L);
        Due.is("type", x.type(1, 51, 1, 107, 77), 3);
        // 51 is of day 2 of the week: cleaned 6 days ago
        strokeIs(x, 0, 7, 7, 2, 12, 3, 1);
        strokeIs(x, 1, 0, 13, 0, 6, 0, 1);
        strokeIs(x, 2, 1, 10, 0, 6, 9, 1);
        Due.is("type of the other", x.type(0, 0, 0, 79, 0), 5);
        strokeIs(x, 3, 9, 10, 0, 0, 9, 1);
        strokeIs(x, 4, 7, 7, 0, 0, 7, 0);
    }

    static void p28_theDrawIsBelow2TimesWanderAnd1LessWander() {
        int[][] leans = {{10, 10, 10, 10, 10}, {11, 9, 9, 11, 10}};
        AskewLetters x = Due.with("m1;");
        x.hand(0);
        for (int wander = 0; wander < 2; wander++) {
            x.set(3, wander);
            x.type(0, 0, 0, 11111, Integer.MIN_VALUE);
            for (int i = 0; i < 5; i++) {
                Due.is("lean by " + wander + " of " + i, x.strokeOf(5 * wander + i, 1), leans[wander][i]);
            }
        }
    }

    static void p28_theSeedGoesOnFromStrokeToStroke() {
        AskewLetters x = Due.with("m1;");
        x.hand(0);
        x.set(3, 2);
        x.type(0, 0, 0, 1111111111, 12345);
        int[] leans = {8, 9, 12, 12, 11, 11, 11, 12, 10, 11};
        for (int i = 0; i < 10; i++) {
            Due.is("lean of " + i, x.strokeOf(i, 1), leans[i]);
        }
        x.type(0, 0, 0, 11, 12345);
        Due.is("begun anew", x.strokeOf(10, 1), 8);
        Due.is("and on", x.strokeOf(11, 1), 9);
    }

    static void p28_zGoesBeyondAnInt() {
        int[] seeds = {0, 1, -1, Integer.MIN_VALUE, Integer.MAX_VALUE, 1013904223, -1013904223, 1 << 30};
        for (int seed : seeds) {
            AskewLetters x = Due.with("m1;");
            x.hand(0);
            x.set(3, 3);
            x.type(0, 0, 0, 111111111, seed);
            long z = seed & 0xffffffffL;
            for (int i = 0; i < 9; i++) {
                // by whole numbers without an end: the lower 32 bits, then without the greatest of them
                z = (z * 1664525 + 1013904223) % 4294967296L;
                Due.is("lean of " + i + " by " + seed, x.strokeOf(i, 1), 10 + z % 2147483648L / 256 % 7 - 3);
            }
        }
    }

    static void p28_theLeanIsHeld() {
        AskewLetters x = Due.with("m1;k8+8;k9-9;");
        x.hand(0);
        x.set(3, 2);
        x.type(0, 0, 0, 888999, 12345);
        // -9 by -2, -1, 2 and 8 by 2, 1, 1
        int[] held = {1, 1, 3, 19, 19, 19};
        for (int i = 0; i < 6; i++) {
            Due.is("held " + i, x.strokeOf(i, 1), held[i]);
        }
    }

    static void p28_theLeanIsHeldAheadOfTheDrawToo() {
        AskewLetters x = Due.with("m1;b00@0+9;b00@0+9;b01@0-9;b01@0-9;");
        x.hand(0);
        x.set(3, 2);
        x.type(0, 0, 0, 1000, 12345);
        // 9 by -2, -1 and 2, -9 by 2
        int[] held = {17, 18, 19, 3};
        for (int i = 0; i < 4; i++) {
            Due.is("held " + i, x.strokeOf(i, 1), held[i]);
        }
    }

    static void p28_roomForAllOrNone() {
        AskewLetters x = Due.with("m1;");
        x.hand(0);
        Due.is("type 10", x.type(0, 0, 0, Integer.MAX_VALUE, 0), 10);
        Due.is("type 20", x.type(0, 0, 0, 1000000000, 0), 20);
        Due.is("type 1", x.type(0, 365, 0, 1, 0), 21);
        Due.is("no room for 10", x.type(0, 365, 0, 1000000000, 0), -6);
        Due.is("none of them came", x.count(2), 21);
        Due.is("room for 9", x.type(0, 365, 0, 999999999, 0), 30);
        Due.is("no room for 1", x.type(0, 0, 0, 1, 0), -6);
    }

    static void p28_noRoomFor2Of1() {
        AskewLetters x = Due.with("m1;");
        x.hand(0);
        for (int i = 0; i < 29; i++) {
            Due.strike(x, 0);
        }
        Due.is("two", x.type(0, 0, 0, 10, 0), -6);
        Due.is("none of them came", x.count(2), 29);
        Due.is("one", x.type(0, 0, 0, 9, 0), 30);
    }

    static void p28_signsAreAbove0() {
        AskewLetters x = Due.with("m1;");
        x.hand(0);
        Due.is("0", x.type(0, 0, 0, 0, 0), -4);
        Due.is("-1", x.type(0, 0, 0, -1, 0), -4);
        Due.is("least", x.type(0, 0, 0, Integer.MIN_VALUE, 0), -4);
        Due.is("1", x.type(0, 0, 0, 1, 0), 1);
    }

    static void p28_theLastMachineDayAndHand() {
        AskewLetters x = Due.with("m1;m1;m1;m1;m1;m1;b59@365+6;n59@365:3;");
        for (int hand = 0; hand < 4; hand++) {
            x.hand(hand * 1000000000L);
        }
        Due.is("type", x.type(5, 365, 3, 9, 0), 1);
        strokeIs(x, 0, 9, 16, 8, 1, 3, 1);
    }
}
