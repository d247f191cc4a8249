/** Promises 15 to 17, 22 and 23: odds, which, many, against, need. */
final class OddsTest {
    private static final Due DUE = new Due("OddsTest");

    public static void main(String[] args) {
        odds();
        oddsRefusals();
        which();
        many();
        against();
        need();
        needByAHair();
        needOfGreatNumbers();
        needRefusals();
        DUE.end();
    }

    private static void oddsAre(AskewLetters x, int machine, long above, long below) {
        DUE.is("odds of " + machine, x.odds(machine, 0, 0), above);
        DUE.is("odds below the line of " + machine, x.odds(machine, 0, 1), below);
    }

    private static void odds() {
        AskewLetters x = Due.with("m2;m3;");
        oddsAre(x, 0, 1, 5);
        oddsAre(x, 1, 3, 10);
        oddsAre(x, 6, 1, 2);
        x.set(2, 3);
        x.stroke(0, 0, 0, 0, 0);
        x.stroke(0, 9, 0, 0, 0);
        oddsAre(x, 0, 20, 53);
        oddsAre(x, 1, 30, 53);
        oddsAre(x, 6, 3, 53);
        x.stroke(1, 0, 0, 0, 0);
        // 800, 1200 and 12
        oddsAre(x, 6, 3, 503);
        x.set(2, 0);
        oddsAre(x, 6, 0, 1);
        oddsAre(x, 0, 2, 5);
        AskewLetters y = new AskewLetters();
        oddsAre(y, 6, 1, 1);
        for (int sign = 0; sign < 10; sign++) {
            y.stroke(sign, 0, 0, 0, 0);
        }
        oddsAre(y, 6, 1, 1);
        Due.bookOf(y, "m1;");
        // 5 signs count: 3200000 against 5 times 32
        oddsAre(y, 6, 1, 20001);
    }

    private static void oddsRefusals() {
        AskewLetters x = Due.with("m2;m3;");
        int[][] calls = {{-1, 0, 0}, {2, -1, 2}, {5, 0, 0}, {7, 0, 0}, {0, -1, 2}, {6, 366, -1}, {0, -1, 0}, {6, 366, 1}};
        int[] dues = {-1, -1, -1, -1, -2, -2, -4, -6};
        for (int i = 0; i < calls.length; i++) {
            int[] c = calls[i];
            DUE.is("odds refused " + i, x.odds(c[0], c[1], c[2]), Due.far(dues[i]));
        }
        AskewLetters y = new AskewLetters();
        y.set(2, 0);
        DUE.is("all are 0", y.odds(6, 0, 0), Due.far(-3));
        DUE.is("all are 0, part 2", y.odds(6, 0, 2), Due.far(-2));
        DUE.is("all are 0, day 366", y.odds(6, 366, 0), Due.far(-6));
        DUE.is("which, all are 0", y.which(365), -3);
        DUE.is("which -1", y.which(-1), -4);
        DUE.is("which 366", y.which(366), -6);
        DUE.is("refusals -3", y.count(13), 2);
    }

    private static void which() {
        AskewLetters x = Due.with("m2;m3;b00@100+4;");
        DUE.is("which, nobody's", x.which(0), 6);
        x.set(2, 3);
        DUE.is("which, of equals the least", x.which(0), 1);
        x.set(2, 2);
        DUE.is("which, machine 1", x.which(0), 1);
        x.stroke(0, 4, 0, 0, 0);
        DUE.is("which on 99", x.which(99), 1);
        DUE.is("which on 100", x.which(100), 0);
        AskewLetters y = new AskewLetters();
        DUE.is("which without machines", y.which(0), 6);
    }

    private static void many() {
        AskewLetters x = Due.with("m1;m1;b10@50+5;n11@60:0;n11@60:1;");
        DUE.is("many of an empty page", x.many(50), 2);
        x.stroke(0, 0, 0, 0, 0);
        DUE.is("many on 49", x.many(49), 2);
        DUE.is("many on 50", x.many(50), 1);
        x.set(0, 5);
        DUE.is("many by slip 5", x.many(50), 2);
        x.stroke(0, 9, 15, 0, 0);
        DUE.is("a stroke that does not count", x.many(50), 2);
        x.stroke(1, 0, 1, 0, 0);
        DUE.is("nicks on 59", x.many(59), 0);
        DUE.is("nicks on 60", x.many(60), 1);
        x.set(0, 4);
        DUE.is("nicks alike, lean is not", x.many(60), 0);
        x.clear();
        x.stroke(0, 9, 0, 0, 0);
        DUE.is("many of a lean that is off by 4", x.many(365), 1);
        DUE.is("many -1", x.many(-1), -4);
        DUE.is("many 366", x.many(366), -6);
        DUE.is("many without machines", new AskewLetters().many(365), 0);
    }

    private static void against() {
        AskewLetters x = Due.with("m1;");
        DUE.is("against of an empty page", x.against(0, 0), -9);
        x.stroke(0, 0, 0, 0, 0);
        x.stroke(0, 9, 15, 0, 0);
        x.stroke(1, 4, 0, 0, 0);
        x.stroke(2, 4, 0, 5, 0);
        DUE.is("against, the first of two", x.against(0, 0), 2);
        x.set(1, 8);
        DUE.is("against by dirt", x.against(0, 0), 3);
        x.set(1, 4);
        DUE.is("against by nicks, all alike", x.against(0, 0), 0);
        x.set(1, 6);
        x.stroke(3, 0, 0, 0, 0);
        x.stroke(4, 0, 0, 0, 0);
        x.stroke(5, 9, 15, 13, 9);
        DUE.is("the sixth sign does not count", x.against(0, 0), 2);
        DUE.is("against of nobody", x.against(1, -1), -1);
        DUE.is("against -1", x.against(0, -1), -4);
        DUE.is("against 366", x.against(0, 366), -6);
        AskewLetters y = Due.with("m1;");
        DUE.is("refused ahead of -9", y.against(0, 366), -6);
    }

    private static void need() {
        AskewLetters x = Due.with("m1;m1;");
        Due.bookOf(x, "b10@0+4;");
        DUE.is("need of an empty page", x.need(0, 0, 0), -9);
        x.stroke(5, 0, 0, 0, 0);
        x.stroke(5, 9, 0, 0, 0);
        x.stroke(0, 0, 0, 0, 0);
        x.stroke(1, 0, 0, 0, 0);
        // by 1: 20, 20 and 10; by 3: 400, 80 and 20; by 4: 8000, 1600 and 40
        DUE.is("need 0", x.need(0, 0, 0), 1);
        DUE.is("need 40", x.need(0, 0, 40), 1);
        DUE.is("need 41", x.need(0, 0, 41), 3);
        DUE.is("need 80", x.need(0, 0, 80), 3);
        DUE.is("need 81", x.need(0, 0, 81), 4);
        DUE.is("need 82", x.need(0, 0, 82), 4);
        DUE.is("need 83", x.need(0, 0, 83), -9);
        DUE.is("need 84", x.need(0, 0, 84), -9);
        DUE.is("need 100", x.need(0, 0, 100), -9);
        DUE.is("need of machine 1", x.need(1, 0, 40), 1);
        DUE.is("need of machine 1, more", x.need(1, 0, 41), -9);
    }

    private static void needByAHair() {
        for (int weight = 1; weight <= 99; weight++) {
            AskewLetters x = Due.with("m" + weight + ";");
            x.set(1, 0);
            x.set(2, 1);
            x.stroke(0, 0, 0, 0, 0);
            for (int hundredths = 0; hundredths <= 100; hundredths++) {
                boolean has = 100 * weight >= hundredths * (weight + 2);
                DUE.is("need " + hundredths + " by " + weight, x.need(0, 365, hundredths), has ? 1 : -9);
            }
        }
    }

    private static void needOfGreatNumbers() {
        AskewLetters x = Due.with("m99;m99;m99;m99;");
        x.set(0, 8);
        x.set(1, 31);
        x.set(2, 0);
        for (int machine = 0; machine < 4; machine++) {
            for (int sign = 0; sign < 5; sign++) {
                Due.bookOf(x, "b" + machine + sign + "@0+1;");
            }
        }
        for (int sign = 0; sign < 5; sign++) {
            x.stroke(sign, 1, 0, 0, 0);
        }
        DUE.is("like of great numbers", x.like(3, 0), 972L * 972 * 972 * 972 * 972);
        oddsAre(x, 3, 1, 4);
        DUE.is("need a quarter", x.need(3, 0, 25), 1);
        for (int hundredths = 26; hundredths <= 100; hundredths++) {
            DUE.is("need " + hundredths, x.need(3, 0, hundredths), -9);
        }
    }

    private static void needRefusals() {
        AskewLetters x = Due.with("m1;");
        int[][] calls = {{1, -1, 101}, {-1, 0, 0}, {0, -1, 101}, {0, 366, -1}, {0, 366, 0}, {0, 0, 101}};
        int[] dues = {-1, -1, -4, -4, -6, -6};
        for (int i = 0; i < calls.length; i++) {
            DUE.is("need refused " + i, x.need(calls[i][0], calls[i][1], calls[i][2]), dues[i]);
        }
    }
}
