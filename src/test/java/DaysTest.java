/** Promises 18 to 21: when, most, sittings, gain. */
final class DaysTest {
    public static void main(String[] args) {
        Due.run(DaysTest.class);
    }

    private static void whenIs(AskewLetters x, int tenth, long above, long below) {
        Due.is("when " + tenth, x.when(0, tenth, 0), above);
        Due.is("when below the line " + tenth, x.when(0, tenth, 1), below);
    }

    static void p18_likeOnItByAllOfTheseTogetherInLeastTerms() {
        AskewLetters x = Due.with("m1;b00@100+4;");
        x.stroke(0, 4, 0, 0, 0);
        // 10 days of 4 and 27 of 20
        whenIs(x, 0, 1, 145);
        whenIs(x, 9, 1, 145);
        whenIs(x, 10, 1, 29);
        whenIs(x, 36, 1, 29);
    }

    static void p18_days0To360By10() {
        // Bent on one of these days alone: 20 there, 4 on 36 others.
        for (int tenth = 0; tenth <= 36; tenth++) {
            AskewLetters x = Due.with("m1;b00@" + 10 * tenth + "+4;s00@" + (10 * tenth + 1) + ";");
            x.stroke(0, 4, 0, 0, 0);
            whenIs(x, tenth, 5, 41);
            whenIs(x, tenth == 0 ? 36 : tenth - 1, 1, 41);
        }
    }

    static void p18_whatIsBetweenTheseDaysIsNotSeen() {
        AskewLetters x = Due.with("m1;b00@1+4;s00@10;b00@361+4;");
        x.stroke(0, 4, 0, 0, 0);
        whenIs(x, 0, 1, 37);
        whenIs(x, 1, 1, 37);
        whenIs(x, 36, 1, 37);
    }

    static void p18_ofAnEmptyPage1By37() {
        AskewLetters x = Due.with("m1;b00@100+4;");
        whenIs(x, 0, 1, 37);
        whenIs(x, 36, 1, 37);
    }

    static void p18_byKindsThatAreUsed() {
        AskewLetters x = Due.with("m1;b00@100+4;n00@360:0;");
        x.stroke(0, 4, 1, 0, 0);
        x.set(1, 2);
        whenIs(x, 10, 1, 29);
        x.set(1, 4);
        whenIs(x, 36, 1, 10);
        x.set(1, 0);
        whenIs(x, 36, 1, 37);
    }

    static void p18_whateverItsWeight() {
        AskewLetters x = Due.with("m99;m1;b00@360+4;");
        x.stroke(0, 4, 0, 0, 0);
        whenIs(x, 36, 5, 41);
        Due.is("of machine 1", x.when(1, 36, 1), 37);
    }

    private static void mostIs(AskewLetters x, int most, int first, int last) {
        Due.is("most", x.most(0, 0), most);
        Due.is("first", x.most(0, 1), first);
        Due.is("last", x.most(0, 2), last);
    }

    static void p19_mostIsTheFirstDayWithTheGreatestLike() {
        AskewLetters x = Due.with("m1;b00@100+4;s00@200;b00@300+4;");
        x.stroke(0, 4, 0, 0, 0);
        Due.is("most", x.most(0, 0), 100);
        Due.bookOf(x, "b00@300-1;");
        Due.is("most when the later is less", x.most(0, 0), 100);
        AskewLetters y = Due.with("m1;b00@100+3;b00@200+1;");
        y.stroke(0, 4, 0, 0, 0);
        Due.is("most when the later is greater", y.most(0, 0), 200);
    }

    static void p19_firstAndLastAreOfDaysWithAtLeastHalfOfThat() {
        AskewLetters x = Due.with("m1;b00@100+4;b00@201+4;");
        x.stroke(0, 4, 0, 0, 0);
        x.set(0, 6);
        // 12 ahead, 28, 12 behind
        mostIs(x, 100, 100, 200);
        x.set(0, 7);
        // 16 ahead, 32, 16 behind: half is enough
        mostIs(x, 100, 0, 360);
    }

    static void p19_halfIsNotCut() {
        AskewLetters x = Due.with("m1;b00@100+3;s00@200;");
        x.set(1, 2);
        x.stroke(0, 3, 0, 0, 0);
        // 2 ahead and behind, 5
        mostIs(x, 100, 100, 190);
        x.set(0, 5);
        // 3 ahead and behind, 6
        mostIs(x, 100, 0, 360);
        x.set(0, 6);
        // 4 ahead and behind, 7
        mostIs(x, 100, 0, 360);
    }

    static void p19_firstAndLastWithOthersBetween() {
        AskewLetters x = Due.with("m1;b00@50+4;s00@60;b00@200+4;s00@210;b00@300+4;s00@310;");
        x.stroke(0, 4, 0, 0, 0);
        mostIs(x, 50, 50, 300);
    }

    static void p19_theGreatestOnOneDayAlone() {
        int[] days = {0, 10, 180, 350, 360};
        for (int day : days) {
            AskewLetters x = Due.with("m1;b00@" + day + "+4;s00@" + (day + 1) + ";");
            x.stroke(0, 4, 0, 0, 0);
            mostIs(x, day, day, day);
        }
    }

    static void p19_ofAnEmptyPageDays0And0And360() {
        mostIs(Due.with("m1;b00@100+4;"), 0, 0, 360);
    }

    static void p19_byKindsThatAreUsed() {
        AskewLetters x = Due.with("m1;b00@100+4;n00@200:0;");
        x.stroke(0, 4, 1, 0, 0);
        x.set(1, 4);
        mostIs(x, 200, 200, 360);
        x.set(1, 2);
        mostIs(x, 100, 100, 360);
        x.set(1, 0);
        mostIs(x, 0, 0, 360);
    }

    private static void splitIs(AskewLetters x, int place, int gain) {
        Due.is("sittings", x.sittings(0), place);
        Due.is("gain", x.gain(0), gain);
    }

    private static AskewLetters bentFor100Days() {
        return Due.with("m1;b00@100+4;s00@200;");
    }

    static void p20_placeAndGainOfTwoStrokes() {
        AskewLetters x = bentFor100Days();
        x.stroke(0, 4, 0, 0, 0);
        x.stroke(0, 0, 0, 0, 0);
        splitIs(x, 1, 20);
    }

    static void p20_thePlaceWithTheGreatestTimes() {
        AskewLetters x = bentFor100Days();
        x.stroke(0, 0, 0, 0, 0);
        x.stroke(1, 9, 1, 0, 0);
        x.stroke(0, 4, 0, 0, 0);
        x.stroke(1, 0, 0, 0, 0);
        // at 1: 20 by 20; at 2: 20 by 400; at 3: 20 by 20
        splitIs(x, 2, 400);
    }

    static void p20_theLastPlaceIsStrokesLess1() {
        AskewLetters x = Due.with("m1;b00@100+4;");
        x.set(0, 8);
        x.stroke(0, 4, 0, 0, 0);
        x.stroke(1, 0, 0, 0, 0);
        x.stroke(0, 9, 15, 0, 0);
        x.stroke(0, 0, 0, 0, 0);
        // at 1: 36 by 36 by 4; at 2: 36 by 36 by 4; at 3: 36 by 36 by 36
        splitIs(x, 3, 36);
    }

    static void p20_ofSeveralTheLeast() {
        AskewLetters x = bentFor100Days();
        x.stroke(0, 4, 0, 0, 0);
        x.stroke(1, 0, 0, 0, 0);
        x.stroke(0, 0, 0, 0, 0);
        // at 1: 20 by 400; at 2: 400 by 20
        splitIs(x, 1, 20);
        x.clear();
        x.stroke(0, 4, 0, 0, 0);
        x.stroke(0, 4, 0, 0, 0);
        x.stroke(0, 9, 0, 0, 0);
        x.stroke(0, 0, 0, 0, 0);
        // at 1: 20 by 20; at 2: 20 by 4; at 3: 20 by 20
        splitIs(x, 1, 20);
    }

    static void p20_onAnyOfTheseDaysEachPartItsOwn() {
        int[] days = {0, 10, 180, 350, 360};
        for (int day : days) {
            AskewLetters x = Due.with("m1;b00@" + day + "+4;s00@" + (day + 1) + ";");
            x.stroke(0, 0, 0, 0, 0);
            x.stroke(0, 4, 0, 0, 0);
            splitIs(x, 1, 20);
        }
    }

    static void p20_aDayBetweenTheseIsNotSeen() {
        AskewLetters x = Due.with("m1;b00@101+4;s00@110;b00@361+4;");
        x.stroke(0, 0, 0, 0, 0);
        x.stroke(0, 4, 0, 0, 0);
        splitIs(x, 1, 4);
    }

    static void p20_signsCountedAnew() {
        AskewLetters x = Due.with("m1;");
        for (int i = 0; i < 30; i++) {
            x.stroke(i % 10, 0, 0, 0, 0);
        }
        // 5 signs ahead and 5 behind, of 30 strokes
        splitIs(x, 5, 3200000);
        x.clear();
        x.stroke(0, 9, 15, 0, 0);
        x.stroke(0, 0, 0, 0, 0);
        splitIs(x, 1, 20);
    }

    static void p20_byStandingAndNickedAloneWhateverIsUsed() {
        AskewLetters x = Due.with("m1;b00@100+4;s00@101;b00@200+3;n00@200:0;n01@0:0;");
        x.stroke(0, 4, 0, 0, 0);
        x.stroke(1, 0, 0, 0, 0);
        x.stroke(0, 3, 1, 0, 0);
        x.stroke(1, 4, 1, 0, 0);
        // at 1: 20 by 200; at 2: 200 by 80; at 3: 200 by 4; the page 200
        for (int used = 0; used <= 31; used++) {
            x.set(1, used);
            splitIs(x, 2, 80);
        }
    }

    static void p20_minus3FewerThan2Strokes() {
        AskewLetters x = Due.with("m1;");
        Due.is("of none", x.sittings(0), -3);
        x.stroke(0, 0, 0, 0, 0);
        Due.is("of one", x.sittings(0), -3);
        x.stroke(0, 0, 0, 0, 0);
        Due.is("of two", x.sittings(0), 1);
    }

    static void p20_placesUpTo29() {
        AskewLetters x = Due.with("m1;b00@200+9;");
        x.set(0, 8);
        x.stroke(0, 0, 0, 0, 0);
        for (int i = 1; i < 29; i++) {
            x.stroke(0, -9, 15, 0, 0);
        }
        x.stroke(0, 9, 0, 0, 0);
        // at 1 to 28: 36 by 1; at 29: 36 by 36
        splitIs(x, 29, 36);
    }

    static void p21_thatByTheGreatestLikeOfThePage() {
        AskewLetters x = Due.with("m1;b00@100+2;");
        x.stroke(0, 0, 0, 0, 0);
        x.stroke(1, 0, 0, 0, 0);
        x.stroke(0, 2, 0, 0, 0);
        x.stroke(1, 3, 0, 0, 0);
        // at 1: 20 by 400; at 2: 400 by 20 by 8; at 3: 400 by 8; by 400 of the whole page
        splitIs(x, 2, 160);
    }

    static void p21_cut() {
        AskewLetters x = Due.with("m1;b01@100+1;b00@100+1;");
        x.set(0, 2);
        x.stroke(0, 0, 0, 0, 0);
        x.stroke(1, 1, 0, 0, 0);
        x.stroke(1, 1, 15, 0, 0);
        // at 1: 12 by 12; at 2: 96 by 3; the page 96
        splitIs(x, 2, 3);
        x.clear();
        x.stroke(0, 0, 0, 0, 0);
        x.stroke(1, 1, 0, 0, 0);
        // 12 by 12 by 96 is one and a half
        splitIs(x, 1, 1);
    }

    static void p21_1WhereTwoAreNoBetterThanOne() {
        AskewLetters x = Due.with("m1;");
        x.stroke(0, 9, 15, 0, 0);
        x.stroke(0, -9, 15, 0, 0);
        splitIs(x, 1, 1);
        x.clear();
        x.stroke(0, 1, 0, 0, 0);
        x.stroke(1, 2, 0, 0, 0);
        splitIs(x, 1, 1);
    }

    static void p21_theGreatestThatCanBe() {
        AskewLetters x = Due.with("m1;");
        x.set(0, 8);
        for (int sign = 0; sign < 5; sign++) {
            x.stroke(sign, 9, 15, 0, 0);
        }
        for (int sign = 0; sign < 5; sign++) {
            x.stroke(sign, 0, 0, 0, 0);
        }
        splitIs(x, 5, 36 * 36 * 36 * 36 * 36);
    }

    static void p21_minus3FewerThan2Strokes() {
        AskewLetters x = Due.with("m1;");
        Due.is("of none", x.gain(0), -3);
        x.stroke(0, 0, 0, 0, 0);
        Due.is("of one", x.gain(0), -3);
        x.stroke(0, 0, 0, 0, 0);
        Due.is("of two", x.gain(0), 20);
    }
}
