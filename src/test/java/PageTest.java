/** Promises 9 to 14, the PAGE and the KINDS of EVIDENCE: stroke, strokeOf, clear, factor, like, copy. */
final class PageTest {
    public static void main(String[] args) {
        Due.run(PageTest.class);
    }

    static void p09_howManyUpTo30() {
        AskewLetters x = new AskewLetters();
        for (int i = 1; i <= 30; i++) {
            Due.is("stroke", x.stroke(i % 10, 0, 0, 0, 0), i);
        }
        Due.is("the 31st", x.stroke(0, 0, 0, 0, 0), -6);
        Due.is("how many", x.count(2), 30);
        Due.is("the last is as it was", x.strokeOf(29, 0), 0);
        Due.is("there is no 31st", x.strokeOf(30, 0), -1);
    }

    private static void strokeIs(AskewLetters x, int i, int... dues) {
        for (int what = 0; what < dues.length; what++) {
            Due.is("strokeOf " + i + " " + what, x.strokeOf(i, what), dues[what]);
        }
    }

    static void p09_theLeastOfEach() {
        AskewLetters x = new AskewLetters();
        Due.is("stroke", x.stroke(0, -9, 0, 0, 0), 1);
        strokeIs(x, 0, 0, 1, 0, 0, 0, 1);
    }

    static void p09_theGreatestOfEach() {
        AskewLetters x = new AskewLetters();
        Due.is("stroke", x.stroke(9, 9, 15, 13, 9), 1);
        strokeIs(x, 0, 9, 19, 15, 13, 9, 1);
    }

    static void p10_signLeanAs10MoreNicksDirtForce() {
        AskewLetters x = new AskewLetters();
        x.stroke(3, -2, 5, 11, 8);
        x.stroke(4, 0, 6, 12, 7);
        strokeIs(x, 0, 3, 8, 5, 11, 8);
        strokeIs(x, 1, 4, 10, 6, 12, 7);
    }

    static void p10_itCountsTheFirstOfItsSign() {
        AskewLetters x = new AskewLetters();
        Due.strike(x, 7, 7, 3, 7, 0, 3);
        int[] counts = {1, 0, 1, 0, 1, 0};
        for (int i = 0; i < counts.length; i++) {
            Due.is("counts " + i, x.strokeOf(i, 5), counts[i]);
        }
    }

    static void p10_itCountsOfTheFirst5SignsThatCome() {
        AskewLetters x = new AskewLetters();
        Due.strike(x, 7, 7, 3, 7, 0, 9, 3, 1, 2, 4, 2);
        int[] counts = {1, 0, 1, 0, 1, 1, 0, 1, 0, 0, 0};
        for (int i = 0; i < counts.length; i++) {
            Due.is("counts " + i, x.strokeOf(i, 5), counts[i]);
        }
        Due.is("as many as are counted", x.count(3), 5);
    }

    static void p11_howManyItHad() {
        AskewLetters x = new AskewLetters();
        Due.is("clear of none", x.clear(), 0);
        Due.strike(x, 1, 2, 1);
        Due.is("clear of 3", x.clear(), 3);
        Due.is("clear again", x.clear(), 0);
        for (int i = 0; i < 30; i++) {
            Due.strike(x, 0);
        }
        Due.is("clear of 30", x.clear(), 30);
    }

    static void p11_thePageHasNoStrokesThen() {
        AskewLetters x = Due.with("m1;");
        x.stroke(9, 4, 0, 0, 0);
        x.clear();
        Due.is("strokes", x.count(2), 0);
        Due.is("those that count", x.count(3), 0);
        Due.is("strokeOf", x.strokeOf(0, 0), -1);
        Due.is("like", x.like(0, 0), 1);
        Due.is("stroke anew", x.stroke(9, 0, 0, 0, 0), 1);
        Due.is("it counts anew", x.strokeOf(0, 5), 1);
        Due.is("like anew", x.like(0, 0), 20);
    }

    private static void factorIs(AskewLetters x, int stroke, int day, int kind, int due) {
        Due.is("factor of " + stroke + " on " + day + " kind " + kind, x.factor(stroke, 0, day, kind), due);
    }

    static void p12_kind0SignIs1() {
        AskewLetters x = Due.with("m1;");
        x.stroke(0, 9, 15, 13, 9);
        x.stroke(0, 0, 0, 0, 0);
        factorIs(x, 0, 0, 0, 1);
        factorIs(x, 1, 0, 0, 1);
    }

    static void p12_kind1SlipAnd1LessHowFarItsLeanIsOff() {
        AskewLetters x = Due.with("m1;k0+1;");
        for (int lean = -9; lean <= 9; lean++) {
            x.stroke(0, lean, 0, 0, 0);
        }
        int[] dues = {1, 1, 1, 1, 1, 1, 1, 2, 3, 4, 5, 4, 3, 2, 1, 1, 1, 1, 1};
        for (int i = 0; i < 19; i++) {
            factorIs(x, i, 0, 1, dues[i]);
        }
    }

    static void p12_kind1By0And8OfSlip() {
        AskewLetters x = Due.with("m1;");
        for (int lean = 0; lean <= 9; lean++) {
            x.stroke(0, lean, 0, 0, 0);
        }
        x.set(0, 0);
        for (int i = 0; i <= 9; i++) {
            factorIs(x, i, 0, 1, 1);
        }
        x.set(0, 8);
        for (int i = 0; i <= 9; i++) {
            factorIs(x, i, 0, 1, i == 9 ? 1 : 9 - i);
        }
    }

    static void p12_kind1OffBy18IsStill1() {
        AskewLetters x = Due.with("m1;k0-9;k1+9;");
        x.set(0, 8);
        x.stroke(0, 9, 0, 0, 0);
        x.stroke(1, -9, 0, 0, 0);
        factorIs(x, 0, 0, 1, 1);
        factorIs(x, 1, 0, 1, 1);
    }

    static void p12_kind1ByTheLeanOfTheDay() {
        AskewLetters x = Due.with("m1;b00@10+3;");
        x.stroke(0, 3, 0, 0, 0);
        factorIs(x, 0, 9, 1, 2);
        factorIs(x, 0, 10, 1, 5);
    }

    static void p12_kind2AlikeIs4() {
        AskewLetters x = Due.with("m1;n00@10:0;n00@20:1;n00@30:2;n00@40:3;");
        int[] nicks = {0, 1, 3, 7, 15};
        for (int i = 0; i < 5; i++) {
            x.stroke(0, 0, nicks[i], 0, 0);
            factorIs(x, i, 10 * i, 2, 4);
        }
    }

    static void p12_kind2AllThatItHasAreTheMachinesIs2() {
        AskewLetters x = Due.with("m1;n00@0:0;n00@0:2;");
        int[] nicks = {0, 1, 4, 5};
        int[] dues = {2, 2, 2, 4};
        for (int i = 0; i < 4; i++) {
            x.stroke(0, 0, nicks[i], 0, 0);
            factorIs(x, i, 0, 2, dues[i]);
        }
    }

    static void p12_kind2Else1() {
        AskewLetters x = Due.with("m1;n00@5:0;n00@5:2;");
        int[] nicks = {2, 3, 7, 8, 13, 15};
        for (int i = 0; i < nicks.length; i++) {
            x.stroke(0, 0, nicks[i], 0, 0);
            factorIs(x, i, 5, 2, 1);
        }
        x.stroke(0, 0, 5, 0, 0);
        factorIs(x, nicks.length, 4, 2, 1);
    }

    static void p12_kind3Is3LessHowFarItsDirtIsOffBy2Cut() {
        AskewLetters x = Due.with("m1;");
        for (int dirt = 0; dirt <= 13; dirt++) {
            x.stroke(0, 0, 0, dirt, 0);
        }
        int[] on6 = {1, 1, 1, 2, 2, 3, 3, 3, 2, 2, 1, 1, 1, 1};
        int[] on0 = {3, 3, 2, 2, 1, 1, 1, 1, 1, 1, 1, 1, 1, 1};
        for (int dirt = 0; dirt <= 13; dirt++) {
            factorIs(x, dirt, 6, 3, on6[dirt]);
            factorIs(x, dirt, 0, 3, on0[dirt]);
        }
    }

    static void p12_kind3OffBy13IsStill1() {
        AskewLetters x = Due.with("m1;");
        x.rate(0, 9);
        x.stroke(0, 0, 0, 0, 0);
        x.stroke(0, 0, 0, 13, 0);
        factorIs(x, 0, 6, 3, 1);
        factorIs(x, 1, 6, 3, 3);
        factorIs(x, 1, 7, 3, 1);
    }

    static void p12_kind4AsAStandingOne() {
        AskewLetters x = Due.with("m1;b00@0+2;");
        x.set(0, 8);
        for (int lean = -9; lean <= 9; lean++) {
            x.stroke(0, lean, 0, 0, 0);
            factorIs(x, lean + 9, 0, 4, Math.max(1, 9 - Math.abs(lean - 2)));
        }
    }

    static void p12_kind4Is1IfTheMachinesLeanIsTheMakes() {
        AskewLetters x = Due.with("m1;k0+2;b00@10+3;b00@20-3;b00@30+1;s00@40;");
        x.stroke(0, 2, 0, 0, 0);
        int[] days = {0, 10, 20, 30, 40};
        int[] standing = {5, 2, 5, 4, 5};
        int[] made = {1, 2, 1, 4, 1};
        for (int i = 0; i < days.length; i++) {
            factorIs(x, 0, days[i], 1, standing[i]);
            factorIs(x, 0, days[i], 4, made[i]);
        }
    }

    static void p12_kind4TheLeanIsTheOneThatIsHeld() {
        AskewLetters x = Due.with("m1;k0+9;b00@0+5;k1-9;b01@0-1;k2+8;b02@0+5;");
        x.stroke(0, 9, 0, 0, 0);
        x.stroke(1, -9, 0, 0, 0);
        x.stroke(2, 9, 0, 0, 0);
        factorIs(x, 0, 0, 4, 1);
        factorIs(x, 1, 0, 4, 1);
        factorIs(x, 2, 0, 4, 5);
    }

    static void p12_ofAStrokeThatDoesNotCountToo() {
        AskewLetters x = Due.with("m1;");
        Due.strike(x, 0, 0, 1, 2, 3, 4, 5);
        factorIs(x, 1, 0, 1, 5);
        factorIs(x, 6, 0, 2, 4);
    }

    static void p12_whateverIsUsed() {
        AskewLetters x = Due.with("m1;b00@0+1;");
        x.stroke(0, 1, 0, 0, 0);
        int[] dues = {1, 5, 4, 3, 5};
        for (int used = 0; used <= 31; used += 31) {
            x.set(1, used);
            for (int kind = 0; kind < 5; kind++) {
                factorIs(x, 0, 0, kind, dues[kind]);
            }
        }
    }

    static void p12_theLastStrokeMachineDayAndKind() {
        AskewLetters x = Due.with("m1;m1;m1;m1;m1;m1;b59@365+1;");
        for (int i = 0; i < 30; i++) {
            x.stroke(9, 1, 0, 0, 0);
        }
        Due.is("factor", x.factor(29, 5, 365, 4), 5);
        Due.is("factor of the day ahead", x.factor(29, 5, 364, 4), 1);
    }

    private static AskewLetters nicked() {
        AskewLetters x = Due.with("m1;k1+2;b01@10+1;n01@10:0;n01@10:2;");
        x.stroke(1, 3, 5, 3, 0);
        x.stroke(1, -9, 1, 0, 0);
        x.stroke(2, -4, 0, 10, 0);
        return x;
    }

    static void p13_standingAndNickedAtFirst() {
        Due.is("like", nicked().like(0, 10), 20 * 4);
    }

    static void p13_allFactorsOfKindsThatAreUsed() {
        AskewLetters x = nicked();
        // 1, 5, 4, 3, 5 of the first one, 1, 1, 4, 1, 1 of the other that counts
        int[] factors = {1, 5, 16, 3, 5};
        for (int used = 0; used <= 31; used++) {
            int due = 1;
            for (int kind = 0; kind < 5; kind++) {
                due *= (used & 1 << kind) != 0 ? factors[kind] : 1;
            }
            x.set(1, used);
            Due.is("like by " + used, x.like(0, 10), due);
        }
    }

    static void p13_ofStrokesOfOneSignTheFirstAlone() {
        AskewLetters x = Due.with("m1;");
        x.stroke(0, 1, 0, 0, 0);
        Due.is("one", x.like(0, 0), 16);
        x.stroke(0, 0, 0, 0, 0);
        Due.is("two of one sign", x.like(0, 0), 16);
        x.stroke(1, 0, 0, 0, 0);
        x.stroke(0, 9, 15, 0, 0);
        x.stroke(1, 9, 15, 0, 0);
        Due.is("two signs", x.like(0, 0), 320);
    }

    static void p13_ofSignsTheFirst5ThatCome() {
        AskewLetters x = Due.with("m1;");
        long[] dues = {20, 400, 8000, 160000, 3200000, 3200000, 3200000};
        for (int i = 0; i < dues.length; i++) {
            Due.strike(x, 9 - i, 9 - i);
            Due.is("like of " + (i + 1) + " signs", x.like(0, 0), dues[i]);
        }
    }

    static void p13_ofAnEmptyPage1() {
        AskewLetters x = Due.with("m1;");
        Due.is("like", x.like(0, 0), 1);
        Due.is("like of the last day", x.like(0, 365), 1);
    }

    static void p13_theGreatest() {
        AskewLetters x = Due.with("m1;b00@0+1;b01@0+1;b02@0+1;b03@0+1;b04@0+1;");
        x.set(0, 8);
        x.set(1, 31);
        for (int sign = 0; sign < 10; sign++) {
            x.stroke(sign, 1, 0, 0, 0);
        }
        Due.is("like", x.like(0, 0), 972L * 972 * 972 * 972 * 972);
    }

    static void p14_withoutNickedAndDirtyOnes() {
        AskewLetters x = nicked();
        for (int used = 0; used <= 31; used++) {
            int due = ((used & 2) != 0 ? 5 : 1) * ((used & 16) != 0 ? 5 : 1);
            x.set(1, used);
            Due.is("copy by " + used, x.copy(0, 10), due);
        }
    }

    static void p14_ofStrokesThatCount() {
        AskewLetters x = Due.with("m1;");
        Due.is("copy of an empty page", x.copy(0, 0), 1);
        long[] dues = {5, 25, 125, 625, 3125, 3125, 3125};
        for (int i = 0; i < dues.length; i++) {
            Due.strike(x, i, i);
            Due.is("copy of " + (i + 1) + " signs", x.copy(0, 0), dues[i]);
        }
    }

    static void p14_onTheDay() {
        AskewLetters x = Due.with("m1;b00@365+1;n00@365:0;");
        x.stroke(0, 1, 1, 0, 0);
        Due.is("copy on 364", x.copy(0, 364), 4);
        Due.is("copy on 365", x.copy(0, 365), 5);
    }
}
