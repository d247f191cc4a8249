/** Promises 4 to 8, and what a SIGN of a MACHINE has on a DAY: lean, nicks, dirt, rate, set. */
final class MachineTest {
    public static void main(String[] args) {
        Due.run(MachineTest.class);
    }

    private static void leansAre(AskewLetters x, int machine, int sign, int[] days, int[] dues) {
        for (int i = 0; i < days.length; i++) {
            Due.is("lean of " + machine + " " + sign + " on " + days[i], x.lean(machine, sign, days[i]), dues[i]);
        }
    }

    static void p04_theMakesAndAllThatItWasBentBy() {
        AskewLetters x = Due.with("m1;k3-2;b03@10+5;b03@20-1;b03@40+4;");
        leansAre(x, 0, 3, new int[] {0, 9, 10, 19, 20, 39, 40, 365}, new int[] {-2, -2, 3, 3, 2, 2, 6, 6});
    }

    static void p04_eventsOfDaysUpToThatOne() {
        AskewLetters x = Due.with("m1;b00@0+1;b00@1+1;b00@364+1;b00@365+1;");
        leansAre(x, 0, 0, new int[] {0, 1, 363, 364, 365}, new int[] {1, 2, 2, 3, 4});
    }

    static void p04_fromTheLatestSetOn() {
        AskewLetters x = Due.with("m1;k0+1;b00@10+3;s00@20;b00@30+2;s00@40;b00@50-4;");
        leansAre(x, 0, 0, new int[] {10, 19, 20, 30, 39, 40, 49, 50}, new int[] {4, 4, 1, 3, 3, 1, 1, -3});
    }

    static void p04_theLatestSetByItsDayNotByItsPlace() {
        AskewLetters x = Due.with("m1;s00@40;b00@50+5;b00@30+2;s00@20;b00@10+3;");
        leansAre(x, 0, 0, new int[] {9, 10, 20, 30, 40, 50}, new int[] {0, 3, 0, 2, 0, 5});
        Due.bookOf(x, "b00@35+1;s00@12;");
        leansAre(x, 0, 0, new int[] {10, 12, 30, 35, 40, 50}, new int[] {3, 0, 2, 3, 0, 5});
    }

    static void p04_onOneDayAsTheyCame() {
        AskewLetters x = Due.with("m1;b00@5+3;s00@5;b00@5+2;");
        Due.is("bent, set, bent", x.lean(0, 0, 5), 2);
        Due.bookOf(x, "b00@5+4;");
        Due.is("bent once more", x.lean(0, 0, 5), 6);
        Due.bookOf(x, "s00@5;");
        Due.is("set last", x.lean(0, 0, 5), 0);
        Due.bookOf(x, "b00@4+1;");
        Due.is("told last, but of the day ahead", x.lean(0, 0, 5), 0);
        Due.is("on the day ahead", x.lean(0, 0, 4), 1);
    }

    static void p04_heldAtTheEndAlone() {
        AskewLetters x = Due.with("m1;k0+9;b00@1+9;b00@2+9;b00@3-9;b00@4-9;b00@5-9;", "b00@6-9;b00@7-9;b00@8-9;b00@9+9;");
        // 9, 18, 27, 18, 9, 0, -9, -18, -27, -18 are held
        leansAre(x, 0, 0, new int[] {0, 1, 2, 3, 4, 5, 6, 7, 8, 9}, new int[] {9, 9, 9, 9, 9, 0, -9, -9, -9, -9});
    }

    static void p04_held9And10AndBelow() {
        AskewLetters x = Due.with("m1;b00@1+8;b00@2+1;b00@3+1;b01@1-8;b01@2-1;b01@3-1;");
        leansAre(x, 0, 0, new int[] {1, 2, 3}, new int[] {8, 9, 9});
        leansAre(x, 0, 1, new int[] {1, 2, 3}, new int[] {-8, -9, -9});
    }

    static void p04_theMakeToldLaterIsTheMakeOfAllDays() {
        AskewLetters x = Due.with("m1;b00@10+5;s00@20;");
        Due.bookOf(x, "k0+2;");
        leansAre(x, 0, 0, new int[] {0, 10, 20}, new int[] {2, 7, 2});
    }

    static void p04_ofThatMachineAndSignAlone() {
        AskewLetters x = Due.with("m1;m1;b03@0+5;b14@0-2;s13@1;s04@1;");
        leansAre(x, 0, 3, new int[] {0, 1}, new int[] {5, 5});
        leansAre(x, 1, 3, new int[] {0, 1}, new int[] {0, 0});
        leansAre(x, 0, 4, new int[] {0, 1}, new int[] {0, 0});
        leansAre(x, 1, 4, new int[] {0, 1}, new int[] {-2, -2});
    }

    static void p04_eventsOfOthersToldFromTheLastDayToTheFirst() {
        AskewLetters x = Due.with("m1;m1;b00@50+1;b11@40+2;n02@30:3;b12@20+4;s10@10;", "b03@45+5;b13@5-6;");
        int[][] machines = {{0, 0, 0, 0, 1, 1, 1, 1}, {0, 1, 2, 3, 0, 1, 2, 3}};
        int[] leans = {1, 0, 0, 5, 0, 2, 4, -6};
        int[] days = {50, 0, 0, 45, 0, 40, 20, 5};
        for (int i = 0; i < leans.length; i++) {
            int day = days[i];
            leansAre(x, machines[0][i], machines[1][i], new int[] {day == 0 ? 0 : day - 1, day, 365}, new int[] {0, leans[i], leans[i]});
        }
        Due.is("nicks on 29", x.nicks(0, 2, 29), 0);
        Due.is("nicks on 30", x.nicks(0, 2, 30), 8);
        Due.is("nicks of another sign", x.nicks(0, 0, 365), 0);
        Due.is("nicks of another machine", x.nicks(1, 2, 365), 0);
    }

    static void p04_theLastMachineAndTheLastSign() {
        AskewLetters x = Due.with("m1;m1;m1;m1;m1;m1;b59@365-7;");
        leansAre(x, 5, 9, new int[] {364, 365}, new int[] {0, -7});
    }

    static void p04_all20Events() {
        AskewLetters x = Due.with("m1;", "b00@19+1;b00@18-1;b00@17+1;b00@16-1;b00@15+1;b00@14-1;b00@13+1;",
            "b00@12-1;b00@11+1;b00@10-1;b00@9+1;b00@8-1;b00@7+1;b00@6-1;", "b00@5+1;b00@4-1;b00@3+1;b00@2-1;b00@1+1;b00@0-1;");
        for (int day = 0; day < 22; day++) {
            Due.is("lean on " + day, x.lean(0, 0, day), day < 19 && day % 2 == 0 ? -1 : 0);
        }
    }

    static void p05_nicksUpToThatDay() {
        AskewLetters x = Due.with("m1;n00@5:0;n00@7:3;n00@365:1;");
        int[] days = {0, 4, 5, 6, 7, 364, 365};
        int[] dues = {0, 0, 1, 1, 9, 9, 11};
        for (int i = 0; i < days.length; i++) {
            Due.is("nicks on " + days[i], x.nicks(0, 0, days[i]), dues[i]);
        }
    }

    static void p05_eachBitOf0To3() {
        AskewLetters x = Due.with("m1;n00@0:3;n00@1:1;n00@2:0;n00@3:2;");
        int[] dues = {8, 10, 11, 15};
        for (int day = 0; day < 4; day++) {
            Due.is("nicks on " + day, x.nicks(0, 0, day), dues[day]);
        }
    }

    static void p05_theSameNickTwiceIsOne() {
        AskewLetters x = Due.with("m1;n00@1:2;n00@2:2;");
        Due.is("nicks", x.nicks(0, 0, 365), 4);
    }

    static void p05_toldLaterOfAnEarlierDay() {
        AskewLetters x = Due.with("m1;n00@50:2;", "n00@20:1;");
        Due.is("on 19", x.nicks(0, 0, 19), 0);
        Due.is("on 20", x.nicks(0, 0, 20), 2);
        Due.is("on 50", x.nicks(0, 0, 50), 6);
    }

    static void p05_ofThatMachineAndSignAlone() {
        AskewLetters x = Due.with("m1;m1;n01@0:1;n10@0:2;");
        Due.is("of 0 0", x.nicks(0, 0, 0), 0);
        Due.is("of 0 1", x.nicks(0, 1, 0), 2);
        Due.is("of 1 0", x.nicks(1, 0, 0), 4);
        Due.is("of 1 1", x.nicks(1, 1, 0), 0);
    }

    static void p06_daysSinceItWasCleanedAreNever7() {
        for (int cleaned = 0; cleaned < 7; cleaned++) {
            AskewLetters x = Due.with("m1;c0" + cleaned + ";");
            int since = (7 - cleaned) % 7;
            for (int day = 0; day <= 365; day++) {
                Due.is("dirt on " + day + " by " + cleaned, x.dirt(0, 0, day), since);
                since = since == 6 ? 0 : since + 1;
            }
        }
    }

    static void p06_onTheDayItIsCleaned0() {
        AskewLetters x = Due.with("m1;c06;");
        x.rate(0, 9);
        Due.is("on 5", x.dirt(0, 0, 5), 13);
        Due.is("on 6", x.dirt(0, 0, 6), 0);
        Due.is("on 7", x.dirt(0, 0, 7), 2);
    }

    static void p06_timesRateBy4Cut() {
        AskewLetters x = Due.with("m1;");
        int[][] dirts = {{0, 0, 0, 0, 0, 0, 0}, {0, 0, 0, 0, 1, 1, 1}, {0, 0, 1, 1, 2, 2, 3}, {0, 0, 1, 2, 3, 3, 4},
            {0, 1, 2, 3, 4, 5, 6}, {0, 1, 2, 3, 5, 6, 7}, {0, 1, 3, 4, 6, 7, 9}, {0, 1, 3, 5, 7, 8, 10},
            {0, 2, 4, 6, 8, 10, 12}, {0, 2, 4, 6, 9, 11, 13}};
        for (int rate = 0; rate <= 9; rate++) {
            x.rate(9, rate);
            for (int day = 0; day < 7; day++) {
                Due.is("dirt by " + rate + " on " + day, x.dirt(0, 9, day), dirts[rate][day]);
            }
        }
    }

    static void p06_eachMachineItsDayEachSignItsRate() {
        AskewLetters x = Due.with("m1;m1;c13;");
        x.rate(2, 8);
        Due.is("of 0 2", x.dirt(0, 2, 4), 8);
        Due.is("of 1 2", x.dirt(1, 2, 4), 2);
        Due.is("of 0 3", x.dirt(0, 3, 4), 4);
        Due.is("of 1 3", x.dirt(1, 3, 4), 1);
    }

    static void p07_whatItWas() {
        AskewLetters x = new AskewLetters();
        Due.is("at first", x.rate(5, 7), 4);
        Due.is("then", x.rate(5, 3), 7);
        Due.is("the same again", x.rate(5, 3), 3);
        Due.is("at last", x.rate(5, 0), 3);
        Due.is("of another sign", x.rate(4, 0), 4);
    }

    static void p07_rateIs0To9() {
        AskewLetters x = new AskewLetters();
        for (int sign = 0; sign <= 9; sign += 9) {
            Due.is("least", x.rate(sign, 0), 4);
            Due.is("below", x.rate(sign, -1), -4);
            Due.is("stays least", x.rate(sign, 9), 0);
            Due.is("above", x.rate(sign, 10), -6);
            Due.is("stays greatest", x.rate(sign, 4), 9);
        }
    }

    private static void settingIs(int what, int first, int least, int greatest) {
        AskewLetters x = new AskewLetters();
        Due.is("at first", x.set(what, least), first);
        Due.is("least", x.set(what, greatest), least);
        Due.is("greatest", x.set(what, least), greatest);
        Due.is("below", x.set(what, least - 1), -4);
        Due.is("stays", x.set(what, greatest), least);
        Due.is("above", x.set(what, greatest + 1), -6);
        Due.is("stays", x.set(what, first), greatest);
        int[] firsts = {4, 6, 5, 0, 20};
        for (int other = 0; other < 5; other++) {
            Due.is("set " + other, x.set(other, firsts[other]), firsts[other]);
        }
    }

    static void p08_slipIs0To8() {
        settingIs(0, 4, 0, 8);
    }

    static void p08_usedIs0To31() {
        settingIs(1, 6, 0, 31);
    }

    static void p08_nobodyIs0To99() {
        settingIs(2, 5, 0, 99);
    }

    static void p08_wanderIs0To3() {
        settingIs(3, 0, 0, 3);
    }

    static void p08_lengthIs1To60() {
        settingIs(4, 20, 1, 60);
    }
}
