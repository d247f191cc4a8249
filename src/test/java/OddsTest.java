/** Promises 15 to 17, 22 and 23: odds, which, many, against, need. */
final class OddsTest {
    public static void main(String[] args) {
        Due.run(OddsTest.class);
    }

    private static void oddsAre(AskewLetters x, int machine, long above, long below) {
        Due.is("odds of " + machine, x.odds(machine, 0, 0), above);
        Due.is("odds below the line of " + machine, x.odds(machine, 0, 1), below);
    }

    static void p15_weightTimesLikeByAllTheseTogetherInLeastTerms() {
        AskewLetters x = Due.with("m2;m3;b10@0+1;");
        x.set(2, 3);
        x.stroke(0, 0, 0, 0, 0);
        x.stroke(0, 9, 0, 0, 0);
        // 2 by 20, 3 by 16 and 3 by 2
        oddsAre(x, 0, 20, 47);
        oddsAre(x, 1, 24, 47);
        oddsAre(x, 6, 3, 47);
    }

    static void p15_ofAnEmptyPageTheWeightsAlone() {
        AskewLetters x = Due.with("m2;m3;");
        oddsAre(x, 0, 1, 5);
        oddsAre(x, 1, 3, 10);
        oddsAre(x, 6, 1, 2);
    }

    static void p15_nobodysIsTimes2ForEachSignThatCounts() {
        AskewLetters x = Due.with("m1;");
        x.set(1, 0);
        x.set(2, 1);
        long[] dues = {2, 4, 8, 16, 32, 32, 32};
        oddsAre(x, 6, 1, 2);
        for (int i = 0; i < dues.length; i++) {
            Due.strike(x, i, i);
            oddsAre(x, 6, dues[i], dues[i] + 1);
        }
    }

    static void p15_nobody0Is0By1() {
        AskewLetters x = Due.with("m2;m3;");
        x.set(2, 0);
        x.stroke(0, 0, 0, 0, 0);
        oddsAre(x, 6, 0, 1);
        oddsAre(x, 0, 2, 5);
    }

    static void p15_nobody99AndWeight99() {
        AskewLetters x = Due.with("m99;");
        x.set(2, 99);
        oddsAre(x, 0, 1, 2);
        oddsAre(x, 6, 1, 2);
        AskewLetters y = Due.with("m1;");
        y.set(2, 99);
        oddsAre(y, 0, 1, 100);
        oddsAre(y, 6, 99, 100);
    }

    static void p15_withoutMachinesNobodysIs1By1() {
        AskewLetters x = new AskewLetters();
        oddsAre(x, 6, 1, 1);
        Due.strike(x, 0, 1, 2);
        oddsAre(x, 6, 1, 1);
    }

    static void p15_ofSixMachinesTheLastOnTheLastDay() {
        AskewLetters x = Due.with("m1;m1;m1;m1;m1;m1;b50@365+4;");
        x.stroke(0, 4, 0, 0, 0);
        // five by 4, one by 20, nobody's 10
        Due.is("above on 365", x.odds(5, 365, 0), 2);
        Due.is("below on 365", x.odds(5, 365, 1), 5);
        Due.is("above on 364", x.odds(5, 364, 0), 2);
        Due.is("below on 364", x.odds(5, 364, 1), 17);
    }

    static void p15_ofTheGreatestNumbers() {
        AskewLetters x = great();
        oddsAre(x, 3, 1, 4);
        oddsAre(x, 6, 0, 1);
    }

    private static AskewLetters great() {
        AskewLetters x = Due.with("m99;m99;m99;m99;");
        x.set(0, 8);
        x.set(1, 31);
        x.set(2, 0);
        for (int machine = 0; machine < 4; machine++) {
            for (int sign = 0; sign < 5; sign++) {
                Due.bookOf(x, "b" + machine + sign + "@0+1;");
            }
        }
        for (int sign = 0; sign < 5; sign++) {
            x.stroke(sign, 1, 0, 0, 0);
        }
        return x;
    }

    static void p15_allAre0Only() {
        AskewLetters x = new AskewLetters();
        x.set(2, 0);
        Due.is("no machine, nobody 0", x.odds(6, 0, 0), 4000000000000000003L);
        Due.is("nor below the line", x.odds(6, 365, 1), 4000000000000000003L);
        x.set(2, 1);
        oddsAre(x, 6, 1, 1);
        x.set(2, 0);
        Due.bookOf(x, "m1;");
        oddsAre(x, 0, 1, 1);
        oddsAre(x, 6, 0, 1);
    }

    static void p16_theMachineWithTheGreatest() {
        AskewLetters x = Due.with("m2;m3;b00@100+4;");
        x.set(2, 2);
        x.stroke(0, 4, 0, 0, 0);
        Due.is("which on 99", x.which(99), 1);
        Due.is("which on 100", x.which(100), 0);
        Due.is("which on 365", x.which(365), 0);
    }

    static void p16_sixIsNobodys() {
        AskewLetters x = Due.with("m2;m3;");
        x.set(2, 4);
        Due.is("which", x.which(0), 6);
        Due.is("which without machines", new AskewLetters().which(0), 6);
    }

    static void p16_ofSeveralTheLeast() {
        AskewLetters x = Due.with("m2;m3;m3;m3;m3;m1;");
        x.set(2, 3);
        Due.is("of machines 1 to 4 and nobody's", x.which(0), 1);
        AskewLetters y = Due.with("m1;m1;m1;m1;m1;m9;");
        y.set(2, 9);
        Due.is("of machine 5 and nobody's", y.which(0), 5);
        AskewLetters z = Due.with("m9;m9;");
        z.set(2, 0);
        Due.is("of machines 0 and 1", z.which(0), 0);
    }

    static void p16_allAre0() {
        AskewLetters x = new AskewLetters();
        x.set(2, 0);
        Due.is("no machine, nobody 0", x.which(0), -3);
        x.set(2, 1);
        Due.is("nobody 1", x.which(0), 6);
    }

    static void p17_everyLeanWithinSlip() {
        AskewLetters x = Due.with("m1;m1;b10@50+5;");
        x.stroke(0, 0, 0, 0, 0);
        int[] slips = {0, 4, 5, 8};
        int[] dues = {1, 1, 2, 2};
        for (int i = 0; i < slips.length; i++) {
            x.set(0, slips[i]);
            Due.is("many by " + slips[i] + " on 49", x.many(49), 2);
            Due.is("many by " + slips[i] + " on 50", x.many(50), dues[i]);
        }
    }

    static void p17_withinSlipUpAndDown() {
        AskewLetters x = Due.with("m1;");
        for (int lean = -9; lean <= 9; lean++) {
            x.clear();
            x.stroke(0, lean, 0, 0, 0);
            Due.is("many of " + lean, x.many(0), Math.abs(lean) <= 4 ? 1 : 0);
        }
    }

    static void p17_withinSlipOfAMachineThatLeans() {
        AskewLetters x = Due.with("m1;k0+7;k1-7;");
        x.stroke(0, 9, 0, 0, 0);
        Due.is("both up", x.many(0), 1);
        x.stroke(1, -3, 0, 0, 0);
        Due.is("both down, off by 4", x.many(0), 1);
        x.clear();
        x.stroke(1, -2, 0, 0, 0);
        Due.is("both down, off by 5", x.many(0), 0);
        x.clear();
        x.stroke(0, -7, 0, 0, 0);
        Due.is("up and down", x.many(0), 0);
    }

    static void p17_everyLeanNotOne() {
        AskewLetters x = Due.with("m1;m1;b10@0+5;b01@0+5;");
        x.stroke(0, 0, 0, 0, 0);
        Due.is("of one sign", x.many(0), 1);
        x.stroke(1, 0, 0, 0, 0);
        Due.is("of two signs", x.many(0), 0);
    }

    static void p17_withAllNicksThatWereMeasured() {
        AskewLetters x = Due.with("m1;m1;n11@60:0;n11@60:2;");
        int[] nicks = {0, 1, 4, 5, 2, 3, 7, 15};
        int[] dues = {2, 1, 1, 1, 0, 0, 0, 0};
        for (int i = 0; i < nicks.length; i++) {
            x.clear();
            x.stroke(1, 0, nicks[i], 0, 0);
            Due.is("many of " + nicks[i] + " on 59", x.many(59), nicks[i] == 0 ? 2 : 0);
            Due.is("many of " + nicks[i] + " on 60", x.many(60), dues[i]);
        }
    }

    static void p17_bothLeanAndNicks() {
        AskewLetters x = Due.with("m1;m1;n00@0:0;b00@0+5;");
        x.stroke(0, 0, 1, 0, 0);
        Due.is("nicks of one, lean of the other", x.many(0), 0);
        x.set(0, 5);
        Due.is("by more slip", x.many(0), 1);
    }

    static void p17_ofStrokesThatCount() {
        AskewLetters x = Due.with("m1;");
        Due.strike(x, 0, 1, 2, 3);
        x.stroke(0, 9, 15, 0, 0);
        Due.is("a second one of a sign", x.many(0), 1);
        x.stroke(4, 0, 0, 0, 0);
        x.stroke(5, 9, 15, 0, 0);
        Due.is("the sixth sign", x.many(0), 1);
        x.clear();
        Due.strike(x, 0, 1, 2, 3);
        x.stroke(4, 9, 0, 0, 0);
        Due.is("the fifth sign", x.many(0), 0);
    }

    static void p17_whateverIsUsedDirtAndForce() {
        AskewLetters x = Due.with("m1;");
        x.set(1, 0);
        x.stroke(0, 0, 0, 13, 9);
        Due.is("dirt and force", x.many(0), 1);
        x.stroke(1, 5, 0, 0, 0);
        Due.is("lean", x.many(0), 0);
    }

    static void p17_ofAnEmptyPageAllOfNoMachinesNone() {
        AskewLetters x = Due.with("m1;m1;m1;m1;m1;m1;");
        Due.is("many of an empty page", x.many(0), 6);
        Due.is("many on the last day", x.many(365), 6);
        Due.is("many without machines", new AskewLetters().many(365), 0);
    }

    static void p22_theStrokeWithTheLeastProductOfItsFactors() {
        AskewLetters x = Due.with("m1;");
        x.stroke(0, 0, 0, 0, 0);
        x.stroke(1, 3, 0, 0, 0);
        // 2 by 4 and 5 by 1
        x.stroke(2, 0, 1, 0, 0);
        Due.is("against", x.against(0, 0), 2);
        x.stroke(3, 4, 0, 0, 0);
        Due.is("against, 1 by 4", x.against(0, 0), 3);
        x.stroke(4, 4, 1, 0, 0);
        Due.is("against, 1 by 1", x.against(0, 0), 4);
    }

    static void p22_ofSeveralTheFirst() {
        AskewLetters x = Due.with("m1;");
        Due.strike(x, 5, 6, 7);
        Due.is("all alike", x.against(0, 0), 0);
        x.clear();
        x.stroke(0, 0, 0, 0, 0);
        x.stroke(1, 4, 0, 0, 0);
        x.stroke(2, -4, 0, 0, 0);
        Due.is("two of three", x.against(0, 0), 1);
    }

    static void p22_thatCounts() {
        AskewLetters x = Due.with("m1;");
        x.stroke(0, 0, 0, 0, 0);
        x.stroke(0, 9, 15, 0, 0);
        Due.is("a second one of a sign", x.against(0, 0), 0);
        x.stroke(1, 1, 0, 0, 0);
        Due.strike(x, 2, 3, 4);
        x.stroke(5, 9, 15, 0, 0);
        Due.is("the sixth sign", x.against(0, 0), 2);
        x.clear();
        Due.strike(x, 0, 1, 2, 3);
        x.stroke(4, 1, 0, 0, 0);
        Due.is("the fifth sign", x.against(0, 0), 4);
    }

    static void p22_byKindsThatAreUsed() {
        AskewLetters x = Due.with("m1;b03@0+1;");
        x.stroke(0, 1, 0, 0, 0);
        x.stroke(1, 0, 1, 0, 0);
        x.stroke(2, 0, 0, 5, 0);
        x.stroke(3, 1, 0, 0, 0);
        int[] used = {0, 1, 2, 4, 8, 16, 6, 10, 12, 14, 18};
        int[] dues = {0, 0, 0, 1, 2, 0, 1, 2, 1, 1, 0};
        for (int i = 0; i < used.length; i++) {
            x.set(1, used[i]);
            Due.is("against by " + used[i], x.against(0, 0), dues[i]);
        }
    }

    static void p22_onTheDay() {
        AskewLetters x = Due.with("m1;b00@365+1;");
        x.stroke(1, 1, 0, 0, 0);
        x.stroke(0, 2, 0, 0, 0);
        Due.is("against on 364", x.against(0, 364), 1);
        Due.is("against on 365", x.against(0, 365), 0);
    }

    static void p22_minus9ThePageIsEmpty() {
        AskewLetters x = Due.with("m1;");
        Due.is("against", x.against(0, 0), -9);
        Due.is("of nobody", x.against(1, 0), -1);
        Due.is("below", x.against(0, -1), -4);
        Due.is("above", x.against(0, 366), -6);
        x.stroke(0, 0, 0, 0, 0);
        x.clear();
        Due.is("against a cleared one", x.against(0, 0), -9);
    }

    private static AskewLetters twoMachines() {
        AskewLetters x = Due.with("m1;m1;b10@0+4;");
        x.stroke(5, 0, 0, 0, 0);
        x.stroke(5, 9, 0, 0, 0);
        x.stroke(0, 0, 0, 0, 0);
        x.stroke(1, 0, 0, 0, 0);
        return x;
    }

    static void p23_theLeastNOfFirstStrokes() {
        AskewLetters x = twoMachines();
        // by 1 and 2: 20, 20 and 10; by 3: 400, 80 and 20; by 4: 8000, 1600 and 40
        int[] hundredths = {0, 40, 41, 80, 81, 82};
        int[] dues = {1, 1, 3, 3, 4, 4};
        for (int i = 0; i < hundredths.length; i++) {
            Due.is("need " + hundredths[i], x.need(0, 0, hundredths[i]), dues[i]);
        }
        Due.is("need of machine 1", x.need(1, 0, 40), 1);
    }

    static void p23_minus9IfNoNIsEnough() {
        AskewLetters x = twoMachines();
        Due.is("need 83", x.need(0, 0, 83), -9);
        Due.is("need 100", x.need(0, 0, 100), -9);
        Due.is("need of machine 1", x.need(1, 0, 41), -9);
    }

    static void p23_minus9WithoutStrokes() {
        AskewLetters x = Due.with("m1;");
        Due.is("need 0", x.need(0, 0, 0), -9);
        x.set(2, 0);
        Due.is("need 100", x.need(0, 0, 100), -9);
    }

    static void p23_exactlySoManyHundredthsAreEnough() {
        for (int weight = 1; weight <= 99; weight++) {
            AskewLetters x = Due.with("m" + weight + ";");
            x.set(1, 0);
            x.set(2, 1);
            x.stroke(0, 0, 0, 0, 0);
            for (int hundredths = 0; hundredths <= 100; hundredths++) {
                boolean has = 100 * weight >= hundredths * (weight + 2);
                Due.is("need " + hundredths + " by " + weight, x.need(0, 365, hundredths), has ? 1 : -9);
            }
        }
    }

    static void p23_oneHundredthLacksByTheLeast() {
        AskewLetters x = Due.with("m1;");
        x.set(1, 0);
        x.stroke(0, 0, 0, 0, 0);
        // nobody's is twice its weight
        int[] nobody = {49, 50, 99};
        int[][] dues = {{1, -9, -9}, {-9, -9, -9}, {-9, -9, -9}};
        for (int i = 0; i < nobody.length; i++) {
            x.set(2, nobody[i]);
            for (int hundredths = 1; hundredths <= 3; hundredths++) {
                Due.is("need " + hundredths + " by " + nobody[i], x.need(0, 0, hundredths), dues[i][hundredths - 1]);
            }
        }
    }

    static void p23_a100OfTheOdds() {
        AskewLetters x = Due.with("m1;");
        x.set(2, 0);
        x.stroke(0, 9, 15, 0, 0);
        Due.is("alone", x.need(0, 0, 100), 1);
        x.set(2, 1);
        Due.is("with nobody's", x.need(0, 0, 100), -9);
    }

    static void p23_onTheDay() {
        AskewLetters x = Due.with("m1;b00@365+4;");
        x.set(2, 1);
        x.stroke(0, 4, 0, 0, 0);
        // 4 and 2, then 20 and 2
        Due.is("need on 364", x.need(0, 364, 67), -9);
        Due.is("need on 365", x.need(0, 365, 67), 1);
    }

    static void p23_theOddsMayFallAgain() {
        AskewLetters x = Due.with("m1;m1;b11@0+4;");
        x.stroke(0, 0, 0, 0, 0);
        x.stroke(1, 4, 0, 0, 0);
        // 20, 20 and 10; then 80, 400 and 20
        Due.is("need of machine 0", x.need(0, 0, 40), 1);
        Due.is("need of machine 1", x.need(1, 0, 80), 2);
        Due.is("more than it ever has", x.need(0, 0, 41), -9);
    }

    static void p23_theLastOfThirtyStrokes() {
        AskewLetters x = Due.with("m1;");
        x.set(2, 1);
        for (int i = 0; i < 29; i++) {
            x.stroke(0, 0, 1, 0, 0);
        }
        x.stroke(1, 0, 0, 0, 0);
        // 5 by 7, then 100 by 104
        Due.is("need 71", x.need(0, 0, 71), 1);
        Due.is("need 72", x.need(0, 0, 72), 30);
        Due.is("need 96", x.need(0, 0, 96), 30);
        Due.is("need 97", x.need(0, 0, 97), -9);
    }

    static void p23_ofTheGreatestNumbers() {
        AskewLetters x = great();
        Due.is("need 0", x.need(3, 0, 0), 1);
        Due.is("need 25", x.need(3, 0, 25), 1);
        for (int hundredths = 26; hundredths <= 100; hundredths++) {
            Due.is("need " + hundredths, x.need(3, 0, hundredths), -9);
        }
    }
}
