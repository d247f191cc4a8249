/** Promises 4 to 8: lean, nicks, dirt, rate, set. */
final class MachineTest {
    private static final Due DUE = new Due("MachineTest");

    public static void main(String[] args) {
        lean();
        leanIsHeldAtTheEnd();
        leanOnOneDay();
        nicks();
        dirt();
        rate();
        set();
        refusals();
        DUE.end();
    }

    private static void lean() {
        AskewLetters x = Due.with("m1;m1;k3-2;b03@10+5;b03@20-1;s03@30;b03@40-4;");
        int[] days = {0, 9, 10, 19, 20, 29, 30, 39, 40, 365};
        int[] leans = {-2, -2, 3, 3, 2, 2, -2, -2, -6, -6};
        for (int i = 0; i < days.length; i++) {
            DUE.is("lean on " + days[i], x.lean(0, 3, days[i]), leans[i]);
        }
        DUE.is("another machine", x.lean(1, 3, 365), -2);
        DUE.is("another sign", x.lean(0, 4, 365), 0);
        Due.bookOf(x, "k3+1;");
        DUE.is("the make told again", x.lean(0, 3, 10), 6);
        DUE.is("the make told again, set", x.lean(0, 3, 30), 1);
        Due.bookOf(x, "b03@15+1;s03@12;");
        DUE.is("events told later of earlier days", x.lean(0, 3, 11), 6);
        DUE.is("set on 12", x.lean(0, 3, 14), 1);
        DUE.is("bent on 15", x.lean(0, 3, 15), 2);
        DUE.is("bent on 20", x.lean(0, 3, 20), 1);
    }

    private static void leanIsHeldAtTheEnd() {
        AskewLetters x = Due.with("m1;k0+9;b00@1+9;b00@2+9;b00@3-9;b00@4-9;b00@5-9;", "b00@6-9;b00@7-9;");
        int[] leans = {9, 9, 9, 9, 9, 0, -9, -9};
        for (int day = 0; day < leans.length; day++) {
            DUE.is("held lean on " + day, x.lean(0, 0, day), leans[day]);
        }
    }

    private static void leanOnOneDay() {
        AskewLetters x = Due.with("m1;b00@5+3;s00@5;b00@5+2;");
        DUE.is("as they came", x.lean(0, 0, 5), 2);
        Due.bookOf(x, "b00@5+4;");
        DUE.is("one more of that day", x.lean(0, 0, 5), 6);
        Due.bookOf(x, "s00@5;");
        DUE.is("set last on that day", x.lean(0, 0, 5), 0);
        Due.bookOf(x, "b00@4+1;");
        DUE.is("told last, but of the day ahead", x.lean(0, 0, 5), 0);
        DUE.is("on the day ahead", x.lean(0, 0, 4), 1);
    }

    private static void nicks() {
        AskewLetters x = Due.with("m1;m1;n00@5:0;n00@7:3;n00@7:3;s00@8;n01@0:1;n10@365:2;");
        DUE.is("nicks on 4", x.nicks(0, 0, 4), 0);
        DUE.is("nicks on 5", x.nicks(0, 0, 5), 1);
        DUE.is("nicks on 7", x.nicks(0, 0, 7), 9);
        DUE.is("nicks are for good", x.nicks(0, 0, 365), 9);
        DUE.is("nicks of sign 1", x.nicks(0, 1, 0), 2);
        DUE.is("nicks of machine 1 on 364", x.nicks(1, 0, 364), 0);
        DUE.is("nicks of machine 1 on 365", x.nicks(1, 0, 365), 4);
    }

    private static void dirt() {
        AskewLetters x = Due.with("m1;m1;c13;c15;");
        int[] first = {0, 1, 2, 3, 4, 5, 6, 0};
        int[] second = {2, 3, 4, 5, 6, 0, 1, 2};
        for (int day = 0; day < 8; day++) {
            DUE.is("dirt of 0 on " + day, x.dirt(0, 2, day), first[day]);
            DUE.is("dirt of 1 on " + day, x.dirt(1, 2, day), second[day]);
        }
        DUE.is("dirt on 365", x.dirt(0, 2, 365), 1);
        x.rate(2, 9);
        int[] fast = {0, 2, 4, 6, 9, 11, 13};
        for (int day = 0; day < 7; day++) {
            DUE.is("dirt of rate 9 on " + day, x.dirt(0, 2, day), fast[day]);
        }
        x.rate(2, 0);
        DUE.is("dirt of rate 0", x.dirt(0, 2, 6), 0);
        DUE.is("dirt of another sign", x.dirt(0, 3, 6), 6);
    }

    private static void rate() {
        AskewLetters x = new AskewLetters();
        DUE.is("rate first", x.rate(9, 0), 4);
        DUE.is("rate then", x.rate(9, 9), 0);
        DUE.is("rate refused", x.rate(9, 10), -6);
        DUE.is("rate stays", x.rate(9, 1), 9);
        DUE.is("rate -1", x.rate(-1, -1), -1);
        DUE.is("rate 10", x.rate(10, 10), -1);
        DUE.is("rate below", x.rate(0, -1), -4);
    }

    private static void set() {
        int[] first = {4, 6, 5, 0, 20};
        int[] least = {0, 0, 0, 0, 1};
        int[] greatest = {8, 31, 99, 3, 60};
        AskewLetters x = new AskewLetters();
        for (int what = 0; what < 5; what++) {
            DUE.is("set least " + what, x.set(what, least[what]), first[what]);
            DUE.is("set greatest " + what, x.set(what, greatest[what]), least[what]);
            DUE.is("set below " + what, x.set(what, least[what] - 1), -4);
            DUE.is("set above " + what, x.set(what, greatest[what] + 1), -6);
            DUE.is("set stays " + what, x.set(what, least[what]), greatest[what]);
        }
        DUE.is("set what -1", x.set(-1, -1), -2);
        DUE.is("set what 5", x.set(5, 1000), -2);
        DUE.is("set what least", x.set(Integer.MIN_VALUE, 0), -2);
    }

    private static void refusals() {
        AskewLetters x = Due.with("m1;");
        int[][] calls = {{-1, 0, 0}, {1, 0, 0}, {0, -1, 0}, {0, 10, 0}, {1, 0, -1}, {0, 10, 366}, {0, 0, -1},
            {0, 0, 366}, {0, 0, Integer.MAX_VALUE}, {0, 0, Integer.MIN_VALUE}};
        int[] dues = {-1, -1, -1, -1, -1, -1, -4, -6, -6, -4};
        for (int i = 0; i < calls.length; i++) {
            int[] c = calls[i];
            DUE.is("lean refused " + i, x.lean(c[0], c[1], c[2]), 1000000000 - dues[i]);
            DUE.is("nicks refused " + i, x.nicks(c[0], c[1], c[2]), dues[i]);
            DUE.is("dirt refused " + i, x.dirt(c[0], c[1], c[2]), dues[i]);
        }
        DUE.is("refusals -1", x.count(11), 18);
        DUE.is("refusals -4", x.count(14), 6);
        DUE.is("refusals -6", x.count(16), 6);
    }
}
