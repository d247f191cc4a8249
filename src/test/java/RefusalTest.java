/**
 * The REFUSALS of each promise: what a refused call answers, which one comes first in the order in which they are told, and
 * that nothing changes but how many there were.
 */
final class RefusalTest {
    private static final int LEAST = Integer.MIN_VALUE;
    private static final int GREATEST = Integer.MAX_VALUE;

    private static final int EMPTY = 1;
    private static final int BUSY = 2;
    private static final int FULL = 4;
    private static final int ANY = EMPTY | BUSY | FULL;

    private interface Call {
        long on(AskewLetters x);
    }

    public static void main(String[] args) {
        Due.run(RefusalTest.class);
    }

    private static AskewLetters objectOf(int state) {
        return state == EMPTY ? new AskewLetters() : state == BUSY ? busy() : full();
    }

    /** Two MACHINES, two STROKES, two HANDS, and room for more of everything. */
    private static AskewLetters busy() {
        AskewLetters x = Due.with("m3;m5;k1+2;b01@10+1;n11@5:2;c03;c14;");
        x.stroke(1, 3, 4, 5, 6);
        x.image();
        x.stroke(2, 1, 0, 1, 2);
        x.rate(1, 7);
        x.set(2, 9);
        x.set(4, 5);
        x.hand(1234567890L);
        x.hand(42);
        x.known(3, 1);
        x.row(1);
        Due.feedText(x, "m1;");
        return x;
    }

    /** No room for anything. */
    private static AskewLetters full() {
        AskewLetters x = Due.with("m9;m8;m7;m6;m5;m4;k0+1;k9-1;c06;c53;", "b00@0+1;n00@0:0;b11@50+2;n11@50:1;b22@90+3;n22@90:2;",
            "b33@100-1;n33@150:3;b44@100-2;b55@365-3;s00@200;n55@365:0;", "s00@300;s11@300;s22@300;s33@300;s44@300;s55@300;",
            "n09@7:1;n59@8:2;");
        for (int i = 0; i < 30; i++) {
            x.stroke(i % 10, i % 19 - 9, i % 16, i % 14, i % 7);
            x.row((i + 1) % 10);
        }
        for (int i = 0; i < 4; i++) {
            x.hand(1234567890L + i);
        }
        for (int i = 0; i < 20; i++) {
            x.known(i % 10, 0);
        }
        x.image();
        Due.feedText(x, "k0+0;".repeat(12) + "k1+1");
        return x;
    }

    private static void refusedAs(long due, int code, int states, Call... calls) {
        for (int state = EMPTY; state <= FULL; state *= 2) {
            for (int i = 0; i < calls.length && (states & state) != 0; i++) {
                String call = "call " + i + " in state " + state;
                for (int part = 0; part < Twin.PARTS; part++) {
                    AskewLetters x = objectOf(state);
                    AskewLetters twin = objectOf(state);
                    Due.is(call, calls[i].on(x), due);
                    isCountedOnce(call, code, x, twin);
                    Twin.isAs(call, x, twin, part);
                }
            }
        }
    }

    private static void isCountedOnce(String call, int code, AskewLetters x, AskewLetters twin) {
        for (int number = 1; number <= 6; number++) {
            Due.is("refusals -" + number + " after " + call, x.count(10 + number),
                twin.count(10 + number) + (number == -code ? 1 : 0));
        }
    }

    private static void refused(int code, int states, Call... calls) {
        refusedAs(code, code, states, calls);
    }

    private static void refusedBy1000000000(int code, int states, Call... calls) {
        refusedAs(1000000000L - code, code, states, calls);
    }

    private static void refusedBy4000000000000000000(int code, int states, Call... calls) {
        refusedAs(4000000000000000000L - code, code, states, calls);
    }

    static void p02_minus4_nBelow1() {
        refused(-4, ANY, x -> x.feed(0, 1), x -> x.feed(-1, 1), x -> x.feed(LEAST, 1));
    }

    static void p02_minus6_nAbove8() {
        refused(-6, ANY, x -> x.feed(9, 1), x -> x.feed(GREATEST, 1));
    }

    static void p02_minus6_above64() {
        refused(-6, FULL, x -> x.feed(1, 1), x -> x.feed(8, 1));
    }

    static void p04_minus1_noSuchMachineOrSign() {
        refusedBy1000000000(-1, EMPTY, x -> x.lean(0, 0, 0));
        refusedBy1000000000(-1, BUSY, x -> x.lean(2, 0, 0));
        refusedBy1000000000(-1, ANY, x -> x.lean(6, 0, 0), x -> x.lean(-1, 0, 0), x -> x.lean(0, -1, 0), x -> x.lean(0, 10, 0),
            x -> x.lean(LEAST, 0, 0), x -> x.lean(GREATEST, 0, 0), x -> x.lean(0, LEAST, 0), x -> x.lean(0, GREATEST, 0));
    }

    static void p04_minus1_goesAheadOfTheDay() {
        refusedBy1000000000(-1, ANY, x -> x.lean(6, 0, -1), x -> x.lean(0, 10, 366), x -> x.lean(-1, -1, LEAST));
    }

    static void p04_minus4_dayBelow0() {
        refusedBy1000000000(-4, BUSY | FULL, x -> x.lean(0, 0, -1), x -> x.lean(1, 9, LEAST));
    }

    static void p04_minus6_dayAbove365() {
        refusedBy1000000000(-6, BUSY | FULL, x -> x.lean(0, 0, 366), x -> x.lean(1, 9, GREATEST));
    }

    static void p05_minus1_noSuchMachineOrSign() {
        refused(-1, EMPTY, x -> x.nicks(0, 0, 0));
        refused(-1, BUSY, x -> x.nicks(2, 0, 0));
        refused(-1, ANY, x -> x.nicks(6, 0, 0), x -> x.nicks(-1, 0, 0), x -> x.nicks(0, -1, 0), x -> x.nicks(0, 10, 0),
            x -> x.nicks(LEAST, 0, 0), x -> x.nicks(GREATEST, 0, 0), x -> x.nicks(0, LEAST, 0), x -> x.nicks(0, GREATEST, 0));
    }

    static void p05_minus1_goesAheadOfTheDay() {
        refused(-1, ANY, x -> x.nicks(6, 0, -1), x -> x.nicks(0, 10, 366), x -> x.nicks(-1, -1, LEAST));
    }

    static void p05_minus4_dayBelow0() {
        refused(-4, BUSY | FULL, x -> x.nicks(0, 0, -1), x -> x.nicks(1, 9, LEAST));
    }

    static void p05_minus6_dayAbove365() {
        refused(-6, BUSY | FULL, x -> x.nicks(0, 0, 366), x -> x.nicks(1, 9, GREATEST));
    }

    static void p06_minus1_noSuchMachineOrSign() {
        refused(-1, EMPTY, x -> x.dirt(0, 0, 0));
        refused(-1, BUSY, x -> x.dirt(2, 0, 0));
        refused(-1, ANY, x -> x.dirt(6, 0, 0), x -> x.dirt(-1, 0, 0), x -> x.dirt(0, -1, 0), x -> x.dirt(0, 10, 0),
            x -> x.dirt(LEAST, 0, 0), x -> x.dirt(GREATEST, 0, 0), x -> x.dirt(0, LEAST, 0), x -> x.dirt(0, GREATEST, 0));
    }

    static void p06_minus1_goesAheadOfTheDay() {
        refused(-1, ANY, x -> x.dirt(6, 0, -1), x -> x.dirt(0, 10, 366), x -> x.dirt(-1, -1, LEAST));
    }

    static void p06_minus4_dayBelow0() {
        refused(-4, BUSY | FULL, x -> x.dirt(0, 0, -1), x -> x.dirt(1, 9, LEAST));
    }

    static void p06_minus6_dayAbove365() {
        refused(-6, BUSY | FULL, x -> x.dirt(0, 0, 366), x -> x.dirt(1, 9, GREATEST));
    }

    static void p07_minus1_noSuchSign() {
        refused(-1, ANY, x -> x.rate(-1, 0), x -> x.rate(10, 0), x -> x.rate(LEAST, 0), x -> x.rate(GREATEST, 0));
    }

    static void p07_minus1_goesAheadOfTheNumber() {
        refused(-1, ANY, x -> x.rate(-1, -1), x -> x.rate(10, 10));
    }

    static void p07_minus4_below0() {
        refused(-4, ANY, x -> x.rate(0, -1), x -> x.rate(9, LEAST));
    }

    static void p07_minus6_above9() {
        refused(-6, ANY, x -> x.rate(0, 10), x -> x.rate(9, GREATEST));
    }

    static void p08_minus2_otherWhat() {
        refused(-2, ANY, x -> x.set(-1, 1), x -> x.set(5, 1), x -> x.set(LEAST, 1), x -> x.set(GREATEST, 1));
    }

    static void p08_minus2_goesAheadOfTheNumber() {
        refused(-2, ANY, x -> x.set(-1, -1), x -> x.set(5, 1000));
    }

    static void p08_minus4_belowTheLeast() {
        refused(-4, ANY, x -> x.set(0, -1), x -> x.set(1, -1), x -> x.set(2, -1), x -> x.set(3, -1), x -> x.set(4, 0),
            x -> x.set(4, LEAST));
    }

    static void p08_minus6_aboveTheGreatest() {
        refused(-6, ANY, x -> x.set(0, 9), x -> x.set(1, 32), x -> x.set(2, 100), x -> x.set(3, 4), x -> x.set(4, 61),
            x -> x.set(0, GREATEST));
    }

    static void p09_minus1_noSuchSign() {
        refused(-1, ANY, x -> x.stroke(-1, 0, 0, 0, 0), x -> x.stroke(10, 0, 0, 0, 0), x -> x.stroke(LEAST, 0, 0, 0, 0),
            x -> x.stroke(GREATEST, 0, 0, 0, 0));
    }

    static void p09_minus1_goesAheadOfTheNumbers() {
        refused(-1, ANY, x -> x.stroke(-1, -10, -1, -1, -1), x -> x.stroke(10, 10, 16, 14, 10));
    }

    static void p09_minus4_anyBelow() {
        refused(-4, ANY, x -> x.stroke(0, -10, 0, 0, 0), x -> x.stroke(0, 0, -1, 0, 0), x -> x.stroke(0, 0, 0, -1, 0),
            x -> x.stroke(0, 0, 0, 0, -1), x -> x.stroke(0, LEAST, 0, 0, 0), x -> x.stroke(0, 0, LEAST, LEAST, LEAST));
    }

    static void p09_minus4_goesAheadOfAnyAbove() {
        refused(-4, ANY, x -> x.stroke(0, -10, 16, 14, 10), x -> x.stroke(0, 10, -1, 14, 10), x -> x.stroke(0, 10, 16, -1, 10),
            x -> x.stroke(0, 10, 16, 14, -1));
    }

    static void p09_minus6_leanAbove9() {
        refused(-6, ANY, x -> x.stroke(0, 10, 0, 0, 0), x -> x.stroke(0, GREATEST, 0, 0, 0));
    }

    static void p09_minus6_nicksAbove15() {
        refused(-6, ANY, x -> x.stroke(0, 0, 16, 0, 0), x -> x.stroke(0, 0, GREATEST, 0, 0));
    }

    static void p09_minus6_dirtAbove13() {
        refused(-6, ANY, x -> x.stroke(0, 0, 0, 14, 0), x -> x.stroke(0, 0, 0, GREATEST, 0));
    }

    static void p09_minus6_forceAbove9() {
        refused(-6, ANY, x -> x.stroke(0, 0, 0, 0, 10), x -> x.stroke(0, 0, 0, 0, GREATEST));
    }

    static void p09_minus6_above30() {
        refused(-6, FULL, x -> x.stroke(0, 0, 0, 0, 0), x -> x.stroke(9, 9, 15, 13, 9));
    }

    static void p10_minus1_noSuchStroke() {
        refused(-1, EMPTY, x -> x.strokeOf(0, 0));
        refused(-1, BUSY, x -> x.strokeOf(2, 0));
        refused(-1, ANY, x -> x.strokeOf(30, 0), x -> x.strokeOf(-1, 0), x -> x.strokeOf(LEAST, 5), x -> x.strokeOf(GREATEST, 5));
    }

    static void p10_minus1_goesAheadOfTheWhat() {
        refused(-1, ANY, x -> x.strokeOf(30, 6), x -> x.strokeOf(-1, -1));
    }

    static void p10_minus2_otherWhat() {
        refused(-2, BUSY | FULL, x -> x.strokeOf(0, 6), x -> x.strokeOf(1, -1), x -> x.strokeOf(0, LEAST),
            x -> x.strokeOf(1, GREATEST));
    }

    static void p12_minus1_noSuchStroke() {
        refused(-1, EMPTY, x -> x.factor(0, 0, 0, 0));
        refused(-1, BUSY, x -> x.factor(2, 0, 0, 0));
        refused(-1, ANY, x -> x.factor(30, 0, 0, 0), x -> x.factor(-1, 0, 0, 0), x -> x.factor(LEAST, 0, 0, 0),
            x -> x.factor(GREATEST, 0, 0, 0));
    }

    static void p12_minus1_noSuchMachine() {
        refused(-1, BUSY, x -> x.factor(0, 2, 0, 0));
        refused(-1, BUSY | FULL, x -> x.factor(0, 6, 0, 0), x -> x.factor(0, -1, 0, 0), x -> x.factor(0, LEAST, 0, 0),
            x -> x.factor(0, GREATEST, 0, 0));
    }

    static void p12_minus1_goesAheadOfTheKindAndTheDay() {
        refused(-1, ANY, x -> x.factor(30, 0, 0, 5), x -> x.factor(-1, 0, -1, 0), x -> x.factor(0, 6, 366, 5));
    }

    static void p12_minus2_otherKind() {
        refused(-2, BUSY | FULL, x -> x.factor(0, 0, 0, 5), x -> x.factor(0, 0, 0, -1), x -> x.factor(0, 0, 0, LEAST),
            x -> x.factor(0, 0, 0, GREATEST));
    }

    static void p12_minus2_goesAheadOfTheDay() {
        refused(-2, BUSY | FULL, x -> x.factor(0, 0, -1, 5), x -> x.factor(0, 0, 366, -1));
    }

    static void p12_minus4_dayBelow0() {
        refused(-4, BUSY | FULL, x -> x.factor(0, 0, -1, 0), x -> x.factor(0, 0, LEAST, 4));
    }

    static void p12_minus6_dayAbove365() {
        refused(-6, BUSY | FULL, x -> x.factor(0, 0, 366, 0), x -> x.factor(0, 0, GREATEST, 4));
    }

    static void p13_minus1_noSuchMachine() {
        refusedBy4000000000000000000(-1, EMPTY, x -> x.like(0, 0));
        refusedBy4000000000000000000(-1, BUSY, x -> x.like(2, 0));
        refusedBy4000000000000000000(-1, ANY, x -> x.like(6, 0), x -> x.like(-1, 0), x -> x.like(LEAST, 0), x -> x.like(GREATEST, 0));
    }

    static void p13_minus1_goesAheadOfTheDay() {
        refusedBy4000000000000000000(-1, ANY, x -> x.like(6, -1), x -> x.like(-1, 366));
    }

    static void p13_minus4_dayBelow0() {
        refusedBy4000000000000000000(-4, BUSY | FULL, x -> x.like(0, -1), x -> x.like(1, LEAST));
    }

    static void p13_minus6_dayAbove365() {
        refusedBy4000000000000000000(-6, BUSY | FULL, x -> x.like(0, 366), x -> x.like(1, GREATEST));
    }

    static void p14_minus1_noSuchMachine() {
        refusedBy4000000000000000000(-1, EMPTY, x -> x.copy(0, 0));
        refusedBy4000000000000000000(-1, BUSY, x -> x.copy(2, 0));
        refusedBy4000000000000000000(-1, ANY, x -> x.copy(6, 0), x -> x.copy(-1, 0), x -> x.copy(LEAST, 0), x -> x.copy(GREATEST, 0));
    }

    static void p14_minus1_goesAheadOfTheDay() {
        refusedBy4000000000000000000(-1, ANY, x -> x.copy(6, -1), x -> x.copy(-1, 366));
    }

    static void p14_minus4_dayBelow0() {
        refusedBy4000000000000000000(-4, BUSY | FULL, x -> x.copy(0, -1), x -> x.copy(1, LEAST));
    }

    static void p14_minus6_dayAbove365() {
        refusedBy4000000000000000000(-6, BUSY | FULL, x -> x.copy(0, 366), x -> x.copy(1, GREATEST));
    }

    static void p15_minus1_noSuchMachineNorNobody() {
        refusedBy4000000000000000000(-1, EMPTY, x -> x.odds(0, 0, 0), x -> x.odds(5, 0, 0));
        refusedBy4000000000000000000(-1, BUSY, x -> x.odds(2, 0, 0), x -> x.odds(5, 0, 1));
        refusedBy4000000000000000000(-1, ANY, x -> x.odds(7, 0, 0), x -> x.odds(-1, 0, 0), x -> x.odds(LEAST, 0, 0),
            x -> x.odds(GREATEST, 0, 0));
    }

    static void p15_minus1_goesAheadOfThePartAndTheDay() {
        refusedBy4000000000000000000(-1, ANY, x -> x.odds(7, 0, 2), x -> x.odds(-1, -1, 0), x -> x.odds(7, 366, 2));
    }

    static void p15_minus2_otherPart() {
        refusedBy4000000000000000000(-2, ANY, x -> x.odds(6, 0, 2), x -> x.odds(6, 0, -1), x -> x.odds(6, 0, LEAST),
            x -> x.odds(6, 0, GREATEST));
    }

    static void p15_minus2_goesAheadOfTheDay() {
        refusedBy4000000000000000000(-2, ANY, x -> x.odds(6, -1, 2), x -> x.odds(6, 366, -1));
    }

    static void p15_minus4_dayBelow0() {
        refusedBy4000000000000000000(-4, ANY, x -> x.odds(6, -1, 0), x -> x.odds(6, LEAST, 1));
    }

    static void p15_minus6_dayAbove365() {
        refusedBy4000000000000000000(-6, ANY, x -> x.odds(6, 366, 0), x -> x.odds(6, GREATEST, 1));
    }

    private static AskewLetters allAre0() {
        AskewLetters x = new AskewLetters();
        x.set(2, 0);
        return x;
    }

    static void p15_minus3_allAre0ComesLast() {
        AskewLetters x = allAre0();
        long[] got = {x.odds(6, 0, 0), x.odds(6, 365, 1), x.odds(6, 366, 0), x.odds(6, -1, 0), x.odds(6, 0, 2), x.odds(0, 0, 0)};
        long[] dues = {3, 3, 6, 4, 2, 1};
        for (int i = 0; i < got.length; i++) {
            Due.is("odds " + i, got[i], 4000000000000000000L + dues[i]);
        }
        refusalsAre(x, 1, 1, 2, 1, 0, 1);
    }

    private static void refusalsAre(AskewLetters x, int... dues) {
        for (int i = 0; i < dues.length; i++) {
            Due.is("refusals " + (-1 - i), x.count(11 + i), dues[i]);
        }
    }

    static void p16_minus4_dayBelow0() {
        refused(-4, ANY, x -> x.which(-1), x -> x.which(LEAST));
    }

    static void p16_minus6_dayAbove365() {
        refused(-6, ANY, x -> x.which(366), x -> x.which(GREATEST));
    }

    static void p16_minus3_allAre0ComesLast() {
        AskewLetters x = allAre0();
        Due.is("which", x.which(0), -3);
        Due.is("which below", x.which(-1), -4);
        Due.is("which above", x.which(366), -6);
        refusalsAre(x, 0, 0, 1, 1, 0, 1);
    }

    static void p17_minus4_dayBelow0() {
        refused(-4, ANY, x -> x.many(-1), x -> x.many(LEAST));
    }

    static void p17_minus6_dayAbove365() {
        refused(-6, ANY, x -> x.many(366), x -> x.many(GREATEST));
    }

    static void p18_minus1_noSuchMachine() {
        refusedBy4000000000000000000(-1, EMPTY, x -> x.when(0, 0, 0));
        refusedBy4000000000000000000(-1, BUSY, x -> x.when(2, 0, 0));
        refusedBy4000000000000000000(-1, ANY, x -> x.when(6, 0, 0), x -> x.when(-1, 0, 0), x -> x.when(LEAST, 0, 0),
            x -> x.when(GREATEST, 0, 0));
    }

    static void p18_minus1_goesAheadOfThePartAndTheDay() {
        refusedBy4000000000000000000(-1, ANY, x -> x.when(6, 0, 2), x -> x.when(-1, -1, 0), x -> x.when(6, 37, -1));
    }

    static void p18_minus2_otherPart() {
        refusedBy4000000000000000000(-2, BUSY | FULL, x -> x.when(0, 0, 2), x -> x.when(0, 0, -1), x -> x.when(0, 0, LEAST),
            x -> x.when(0, 0, GREATEST));
    }

    static void p18_minus2_goesAheadOfTheDay() {
        refusedBy4000000000000000000(-2, BUSY | FULL, x -> x.when(0, -1, 2), x -> x.when(0, 37, -1));
    }

    static void p18_minus4_aTenthOfADayBelow0() {
        refusedBy4000000000000000000(-4, BUSY | FULL, x -> x.when(0, -1, 0), x -> x.when(0, LEAST, 1));
    }

    static void p18_minus6_aTenthOfADayAbove36() {
        refusedBy4000000000000000000(-6, BUSY | FULL, x -> x.when(0, 37, 0), x -> x.when(0, GREATEST, 1));
    }

    static void p19_minus1_noSuchMachine() {
        refused(-1, EMPTY, x -> x.most(0, 0));
        refused(-1, BUSY, x -> x.most(2, 0));
        refused(-1, ANY, x -> x.most(6, 0), x -> x.most(-1, 0), x -> x.most(LEAST, 0), x -> x.most(GREATEST, 0));
    }

    static void p19_minus1_goesAheadOfTheWhat() {
        refused(-1, ANY, x -> x.most(6, 3), x -> x.most(-1, -1));
    }

    static void p19_minus2_otherWhat() {
        refused(-2, BUSY | FULL, x -> x.most(0, 3), x -> x.most(0, -1), x -> x.most(0, LEAST), x -> x.most(0, GREATEST));
    }

    static void p20_minus1_noSuchMachine() {
        refused(-1, EMPTY, x -> x.sittings(0));
        refused(-1, BUSY, x -> x.sittings(2));
        refused(-1, ANY, x -> x.sittings(6), x -> x.sittings(-1), x -> x.sittings(LEAST), x -> x.sittings(GREATEST));
    }

    static void p21_minus1_noSuchMachine() {
        refused(-1, EMPTY, x -> x.gain(0));
        refused(-1, BUSY, x -> x.gain(2));
        refused(-1, ANY, x -> x.gain(6), x -> x.gain(-1), x -> x.gain(LEAST), x -> x.gain(GREATEST));
    }

    private static void fewerThan2(Call ofMachine0, Call ofMachine1) {
        for (int strokes = 0; strokes < 2; strokes++) {
            AskewLetters x = Due.with("m1;");
            AskewLetters twin = Due.with("m1;");
            for (int i = 0; i < strokes; i++) {
                Due.strike(x, 0);
                Due.strike(twin, 0);
            }
            Due.is("of " + strokes, ofMachine0.on(x), -3);
            isCountedOnce("one of " + strokes, -3, x, twin);
            Due.is("of nobody", ofMachine1.on(x), -1);
            Due.is("strokes", x.count(2), strokes);
        }
    }

    static void p20_minus3_fewerThan2StrokesBehindMinus1() {
        fewerThan2(x -> x.sittings(0), x -> x.sittings(1));
    }

    static void p21_minus3_fewerThan2StrokesBehindMinus1() {
        fewerThan2(x -> x.gain(0), x -> x.gain(1));
    }

    static void p22_minus1_noSuchMachine() {
        refused(-1, EMPTY, x -> x.against(0, 0));
        refused(-1, BUSY, x -> x.against(2, 0));
        refused(-1, ANY, x -> x.against(6, 0), x -> x.against(-1, 0), x -> x.against(LEAST, 0), x -> x.against(GREATEST, 0));
    }

    static void p22_minus1_goesAheadOfTheDay() {
        refused(-1, ANY, x -> x.against(6, -1), x -> x.against(-1, 366));
    }

    static void p22_minus4_dayBelow0() {
        refused(-4, BUSY | FULL, x -> x.against(0, -1), x -> x.against(1, LEAST));
    }

    static void p22_minus6_dayAbove365() {
        refused(-6, BUSY | FULL, x -> x.against(0, 366), x -> x.against(1, GREATEST));
    }

    static void p22_minus9_ofAnEmptyPageIsNoRefusal() {
        AskewLetters x = Due.with("m1;");
        Due.is("against", x.against(0, 0), -9);
        refusalsAre(x, 0, 0, 0, 0, 0, 0);
    }

    static void p23_minus1_noSuchMachine() {
        refused(-1, EMPTY, x -> x.need(0, 0, 0));
        refused(-1, BUSY, x -> x.need(2, 0, 0));
        refused(-1, ANY, x -> x.need(6, 0, 0), x -> x.need(-1, 0, 0), x -> x.need(LEAST, 0, 0), x -> x.need(GREATEST, 0, 0));
    }

    static void p23_minus1_goesAheadOfTheNumbers() {
        refused(-1, ANY, x -> x.need(6, -1, 0), x -> x.need(-1, 366, 101), x -> x.need(6, 0, -1));
    }

    static void p23_minus4_dayOrHundredthsBelow0() {
        refused(-4, BUSY | FULL, x -> x.need(0, -1, 0), x -> x.need(0, 0, -1), x -> x.need(0, LEAST, 0), x -> x.need(0, 0, LEAST));
    }

    static void p23_minus4_goesAheadOfAnyAbove() {
        refused(-4, BUSY | FULL, x -> x.need(0, -1, 101), x -> x.need(0, 366, -1));
    }

    static void p23_minus6_dayAbove365OrHundredthsAbove100() {
        refused(-6, BUSY | FULL, x -> x.need(0, 366, 0), x -> x.need(0, 0, 101), x -> x.need(0, GREATEST, 100),
            x -> x.need(0, 365, GREATEST));
    }

    static void p23_minus9_isNoRefusal() {
        AskewLetters x = Due.with("m1;");
        Due.is("need", x.need(0, 0, 0), -9);
        refusalsAre(x, 0, 0, 0, 0, 0, 0);
    }

    static void p24_minus4_below0() {
        refused(-4, ANY, x -> x.hand(-1), x -> x.hand(Long.MIN_VALUE));
    }

    static void p24_minus6_moreThan10Digits() {
        refused(-6, ANY, x -> x.hand(10000000000L), x -> x.hand(Long.MAX_VALUE));
    }

    static void p24_minus6_above4() {
        refused(-6, FULL, x -> x.hand(0), x -> x.hand(9999999999L));
    }

    static void p25_minus1_noSuchHand() {
        refused(-1, EMPTY, x -> x.handLike(0));
        refused(-1, BUSY, x -> x.handLike(2));
        refused(-1, ANY, x -> x.handLike(4), x -> x.handLike(-1), x -> x.handLike(LEAST), x -> x.handLike(GREATEST));
    }

    static void p26_minus9_isNoRefusal() {
        AskewLetters x = new AskewLetters();
        Due.is("whose", x.whose(), -9);
        refusalsAre(x, 0, 0, 0, 0, 0, 0);
    }

    static void p27_minus9_isNoRefusal() {
        AskewLetters x = new AskewLetters();
        Due.is("pale", x.pale(), -9);
        refusalsAre(x, 0, 0, 0, 0, 0, 0);
    }

    static void p28_minus1_noSuchMachine() {
        refused(-1, EMPTY, x -> x.type(0, 0, 0, 1, 0));
        refused(-1, BUSY, x -> x.type(2, 0, 0, 1, 0));
        refused(-1, ANY, x -> x.type(6, 0, 0, 1, 0), x -> x.type(-1, 0, 0, 1, 0), x -> x.type(LEAST, 0, 0, 1, 0),
            x -> x.type(GREATEST, 0, 0, 1, 0));
    }

    static void p28_minus1_noSuchHand() {
        refused(-1, BUSY, x -> x.type(0, 0, 2, 1, 0));
        refused(-1, BUSY | FULL, x -> x.type(0, 0, 4, 1, 0), x -> x.type(0, 0, -1, 1, 0), x -> x.type(0, 0, LEAST, 1, 0),
            x -> x.type(0, 0, GREATEST, 1, 0));
    }

    static void p28_minus1_goesAheadOfTheNumbers() {
        refused(-1, ANY, x -> x.type(6, -1, 0, 0, 0), x -> x.type(0, 366, 4, 1, 0), x -> x.type(0, 0, 4, 0, 0),
            x -> x.type(-1, 0, -1, Integer.MAX_VALUE, 0));
    }

    static void p28_minus4_signsBelow1OrDayBelow0() {
        refused(-4, BUSY | FULL, x -> x.type(0, 0, 0, 0, 0), x -> x.type(0, 0, 0, -1, 0), x -> x.type(0, 0, 0, LEAST, 0),
            x -> x.type(0, -1, 0, 1, 0), x -> x.type(0, LEAST, 0, 1, 0));
    }

    static void p28_minus4_goesAheadOfTheDayAboveAndOfNoRoom() {
        refused(-4, BUSY | FULL, x -> x.type(0, 366, 0, 0, 0), x -> x.type(0, -1, 0, Integer.MAX_VALUE, 0));
    }

    static void p28_minus6_dayAbove365() {
        refused(-6, BUSY | FULL, x -> x.type(0, 366, 0, 1, 0), x -> x.type(0, GREATEST, 0, 1, 0));
    }

    static void p28_minus6_noRoomForAll() {
        refused(-6, FULL, x -> x.type(0, 0, 0, 1, 0), x -> x.type(0, 365, 3, Integer.MAX_VALUE, 0));
    }

    static void p29_minus1_below0OrBeyondTheLength() {
        refused(-1, BUSY, x -> x.over(5));
        refused(-1, EMPTY | FULL, x -> x.over(20));
        refused(-1, ANY, x -> x.over(-1), x -> x.over(60), x -> x.over(LEAST), x -> x.over(GREATEST));
    }

    static void p30_minus1_below0OrBeyondTheLength() {
        refused(-1, BUSY, x -> x.readBack(5));
        refused(-1, EMPTY | FULL, x -> x.readBack(20));
        refused(-1, ANY, x -> x.readBack(-1), x -> x.readBack(60), x -> x.readBack(LEAST), x -> x.readBack(GREATEST));
    }

    static void p30_minus9_isNoRefusal() {
        AskewLetters x = new AskewLetters();
        Due.is("readBack", x.readBack(0), -9);
        refusalsAre(x, 0, 0, 0, 0, 0, 0);
    }

    static void p31_minus9_isNoRefusal() {
        AskewLetters x = new AskewLetters();
        Due.is("laid", x.laid(), -9);
        refusalsAre(x, 0, 0, 0, 0, 0, 0);
    }

    static void p32_minus4_eitherBelowMinus9() {
        refused(-4, ANY, x -> x.known(-10, 0), x -> x.known(0, -10), x -> x.known(LEAST, 0), x -> x.known(0, LEAST));
    }

    static void p32_minus4_goesAheadOfAnyAbove() {
        refused(-4, ANY, x -> x.known(-10, 10), x -> x.known(10, -10));
    }

    static void p32_minus6_eitherAbove9() {
        refused(-6, ANY, x -> x.known(10, 0), x -> x.known(0, 10), x -> x.known(GREATEST, 0), x -> x.known(0, GREATEST));
    }

    static void p32_minus6_above20() {
        refused(-6, FULL, x -> x.known(0, 0), x -> x.known(-9, 9));
    }

    static void p33_minus2_otherPart() {
        refusedBy1000000000(-2, ANY, x -> x.reader(2), x -> x.reader(-1), x -> x.reader(LEAST), x -> x.reader(GREATEST));
    }

    static void p33_minus3_thereAreNone() {
        refusedBy1000000000(-3, EMPTY, x -> x.reader(0), x -> x.reader(1));
    }

    static void p34_minus4_below0() {
        refused(-4, ANY, x -> x.row(-1), x -> x.row(LEAST));
    }

    static void p34_minus6_above9() {
        refused(-6, ANY, x -> x.row(10), x -> x.row(GREATEST));
    }

    static void p34_minus6_above30() {
        refused(-6, FULL, x -> x.row(0), x -> x.row(9));
    }

    static void p35_minus9_isNoRefusal() {
        AskewLetters x = new AskewLetters();
        Due.is("judge", x.judge(), -9);
        refusalsAre(x, 0, 0, 0, 0, 0, 0);
    }

    static void p37_minus3_thereIsNone() {
        refused(-3, EMPTY, x -> x.on());
    }
}
