/** Promises 1 to 3, and the BOOK of the Terms: a new object, feed, book. */
final class BookTest {
    private static final String EIGHT_EVENTS = "s00@0;n00@0:0;b00@0+0;s00@0;n00@0:0;b00@0+0;s00@0;s00@0;";

    public static void main(String[] args) {
        Due.run(BookTest.class);
    }

    static void p01_noMachinesAnEmptyPageAndNothingElse() {
        AskewLetters x = new AskewLetters();
        for (int what = 0; what <= 7; what++) {
            Due.is("count " + what, x.count(what), 0);
        }
        Due.is("over", x.over(0), 0);
        Due.is("many", x.many(0), 0);
        Due.is("whose", x.whose(), -9);
        Due.is("pale", x.pale(), -9);
        Due.is("laid", x.laid(), -9);
        Due.is("judge", x.judge(), -9);
        Due.is("clear", x.clear(), 0);
    }

    static void p01_noRefusalsAtFirst() {
        AskewLetters x = new AskewLetters();
        for (int what = 11; what <= 16; what++) {
            Due.is("count " + what, x.count(what), 0);
        }
    }

    static void p01_slip4Used6Nobody5Wander0Length20AtFirst() {
        AskewLetters x = new AskewLetters();
        int[] first = {4, 6, 5, 0, 20};
        for (int what = 0; what < 5; what++) {
            Due.is("set " + what, x.set(what, 1), first[what]);
        }
    }

    static void p01_rateOfEachSignIs4AtFirst() {
        AskewLetters x = new AskewLetters();
        for (int sign = 0; sign < 10; sign++) {
            Due.is("rate " + sign, x.rate(sign, 0), 4);
        }
    }

    static void p01_objectsAreApart() {
        AskewLetters x = Due.with("m1;k0+1;");
        x.stroke(0, 0, 0, 0, 0);
        x.set(0, 8);
        AskewLetters y = new AskewLetters();
        Due.is("machines of another object", y.count(0), 0);
        Due.is("strokes of another object", y.count(2), 0);
        Due.is("SLIP of another object", y.set(0, 4), 4);
    }

    static void p02_nOf1To8BytesComeAndNoMore() {
        // The first n bytes of "m5;m6;m7": a BOOK for 3 and 6, else something lacks at the end.
        int[] books = {-1001, -1002, 1, -1004, -1005, 2, -1007, -1008};
        for (int n = 1; n <= 8; n++) {
            AskewLetters x = new AskewLetters();
            Due.is("feed " + n, x.feed(n, Due.bytesOf("m5;m6;m7")), n);
            Due.is("book of " + n, x.book(), books[n - 1]);
        }
    }

    static void p02_theLowestByteFirst() {
        AskewLetters x = new AskewLetters();
        Due.is("feed m7;", x.feed(3, 0x3b376dL), 3);
        Due.is("book", x.book(), 1);
        Due.is("feed ;7m", x.feed(3, 0x6d373bL), 3);
        Due.is("book", x.book(), -1000);
    }

    static void p02_bytesAbove127AreBytesToo() {
        AskewLetters x = new AskewLetters();
        Due.is("feed of a long below 0", x.feed(8, 0xff3b376d3b376dL | 0x80L << 56), 8);
        Due.is("book", x.book(), -1006);
        Due.is("feed of -1", x.feed(8, -1L), 8);
        Due.is("book", x.book(), -1000);
    }

    static void p02_howManyTheTapeHas() {
        AskewLetters x = new AskewLetters();
        int[] n = {1, 8, 3, 7, 5};
        int[] due = {1, 9, 12, 19, 24};
        for (int i = 0; i < n.length; i++) {
            Due.is("feed " + n[i], x.feed(n[i], 0), due[i]);
            Due.is("count", x.count(6), due[i]);
        }
    }

    static void p02_theTapeIsFullWith64() {
        AskewLetters x = new AskewLetters();
        for (int i = 1; i <= 8; i++) {
            Due.is("feed 8", x.feed(8, -1L), 8 * i);
        }
        Due.is("a byte above 64", x.feed(1, 0), -6);
        Due.is("the tape stays", x.count(6), 64);
        AskewLetters y = new AskewLetters();
        for (int i = 1; i <= 9; i++) {
            y.feed(7, 0);
        }
        Due.is("two bytes above 63", y.feed(2, 0), -6);
        Due.is("none of them came", y.count(6), 63);
        Due.is("one byte above 63", y.feed(1, 0), 64);
    }

    static void p03_howManyStatements() {
        Due.is("one", Due.fresh("m1;"), 1);
        Due.is("two", Due.fresh("k9-0;k9-9;"), 2);
        Due.is("seventeen", Due.fresh("m1;m1;m1;m1;m1;m1;c00;c00;c00;c00;c00;c00;c00;c00;c00;c00;c00;"), 17);
    }

    static void p03_aTextOf64BytesIsABook() {
        AskewLetters x = new AskewLetters();
        Due.feedText(x, "k0+9;".repeat(12) + "m99;");
        Due.is("bytes", x.count(6), 64);
        Due.is("book", x.book(), 13);
        Due.is("its first comes", x.lean(0, 0, 0), 9);
        Due.is("its last comes", x.count(0), 1);
    }

    static void p03_theTapeHasNoneThen() {
        AskewLetters x = new AskewLetters();
        Due.is("book", Due.bookOf(x, "m1;"), 1);
        Due.is("bytes", x.count(6), 0);
        Due.is("book again", x.book(), -1000);
        Due.is("machines", x.count(0), 1);
    }

    static void p03_theTapeHasNoneByAFaultToo() {
        AskewLetters x = new AskewLetters();
        Due.is("kind 1", Due.bookOf(x, "m1;m"), -1004);
        Due.is("bytes", x.count(6), 0);
        Due.is("kind 2", Due.bookOf(x, "m1;m0;"), -2003);
        Due.is("bytes", x.count(6), 0);
        Due.is("nothing of it is left", Due.bookOf(x, "m2;"), 1);
    }

    static void p03_atLeastOneStatement() {
        Due.is("an empty tape", new AskewLetters().book(), -1000);
    }

    static void p03_bookAfterBookGoesOn() {
        AskewLetters x = Due.with("m1;");
        Due.is("of a machine of an earlier book", Due.bookOf(x, "c06;b00@0+1;"), 2);
        Due.is("a machine more", Due.bookOf(x, "m2;s10@3;"), 2);
        Due.is("machines", x.count(0), 2);
        Due.is("events", x.count(1), 2);
    }

    private static void weightIs(String text, int due) {
        AskewLetters x = Due.with("m1;" + text);
        x.set(2, 0);
        Due.is("1 by all with " + text, x.odds(0, 0, 1), due + 1);
    }

    static void p03_m_weightIs1To99OfOneOrTwoDigits() {
        weightIs("m1;", 1);
        weightIs("m9;", 9);
        weightIs("m10;", 10);
        weightIs("m99;", 99);
        Due.is("m0", Due.fresh("m0;"), -2000);
        Due.is("m00", Due.fresh("m1;m00;"), -2003);
        Due.is("three digits", Due.fresh("m100;"), -1003);
        Due.is("no digit", Due.fresh("m;"), -1001);
    }

    static void p03_m_sixMachinesAtMost() {
        Due.is("6 in one book", Due.fresh("m1;m2;m3;m4;m5;m6;"), 6);
        Due.is("7 in one book", Due.fresh("m1;m2;m3;m4;m5;m6;m7;"), -2018);
        Due.is("8 in one book", Due.fresh("m1;m2;m3;m4;m5;m6;m7;m8;"), -2018);
        AskewLetters x = Due.with("m1;m2;m3;m4;m5;");
        Due.is("the 6th in another", Due.bookOf(x, "m6;"), 1);
        Due.is("the 7th in another", Due.bookOf(x, "k0+1;m7;"), -2005);
        Due.is("machines", x.count(0), 6);
    }

    static void p03_k_theMakesLeanIs0AtFirst() {
        AskewLetters x = Due.with("m1;");
        for (int sign = 0; sign < 10; sign++) {
            Due.is("lean of " + sign, x.lean(0, sign, 0), 0);
        }
    }

    static void p03_k_theMakesLeanOfEachSign() {
        AskewLetters x = Due.with("k0+9;k1-9;k2+0;k3-0;k8+1;k9-1;m1;m1;");
        int[] due = {9, -9, 0, 0, 0, 0, 0, 0, 1, -1};
        for (int sign = 0; sign < 10; sign++) {
            Due.is("lean of 0 " + sign, x.lean(0, sign, 365), due[sign]);
            Due.is("lean of 1 " + sign, x.lean(1, sign, 0), due[sign]);
        }
    }

    static void p03_k_toldAgainItTakesThePlace() {
        AskewLetters x = Due.with("m1;k4+9;k4-3;");
        Due.is("in one book", x.lean(0, 4, 0), -3);
        Due.bookOf(x, "k4+2;");
        Due.is("in another", x.lean(0, 4, 0), 2);
        Due.bookOf(x, "k4-0;");
        Due.is("by 0", x.lean(0, 4, 0), 0);
    }

    static void p03_k_needsNoMachine() {
        Due.is("k alone", Due.fresh("k0+9;"), 1);
        Due.is("k ahead of the machine", Due.fresh("k9-9;m1;"), 2);
    }

    static void p03_b_itIsBentBySoMuch() {
        AskewLetters x = Due.with("m1;b07@0+9;b08@0-9;b09@0+0;b00@0-0;");
        int[] signs = {7, 8, 9, 0, 1};
        int[] due = {9, -9, 0, 0, 0};
        for (int i = 0; i < signs.length; i++) {
            Due.is("lean of " + signs[i], x.lean(0, signs[i], 0), due[i]);
        }
        Due.is("events", x.count(1), 4);
    }

    static void p03_dayIs0To365() {
        String[] statements = {"b00@#+1;", "s00@#;", "n00@#:1;"};
        for (String statement : statements) {
            Due.is(statement + " on 0", Due.fresh("m1;" + statement.replace("#", "0")), 2);
            Due.is(statement + " on 365", Due.fresh("m1;" + statement.replace("#", "365")), 2);
            Due.is(statement + " on 366", Due.fresh("m1;" + statement.replace("#", "366")), -2003);
            Due.is(statement + " on 999", Due.fresh("m1;" + statement.replace("#", "999")), -2003);
        }
    }

    static void p03_dayIsOf1To3Digits() {
        String[] statements = {"b00@#+1;", "s00@#;", "n00@#:1;"};
        for (String statement : statements) {
            Due.is(statement + " by 1", Due.fresh("m1;" + statement.replace("#", "7")), 2);
            Due.is(statement + " by 2", Due.fresh("m1;" + statement.replace("#", "07")), 2);
            Due.is(statement + " by 3", Due.fresh("m1;" + statement.replace("#", "007")), 2);
            Due.is(statement + " by 4", Due.fresh("m1;" + statement.replace("#", "0007")), -1010);
            Due.is(statement + " by 0", Due.fresh("m1;" + statement.replace("#", "")), -1007);
        }
        AskewLetters x = Due.with("m1;b00@007+1;");
        Due.is("on 6", x.lean(0, 0, 6), 0);
        Due.is("on 7", x.lean(0, 0, 7), 1);
    }

    static void p03_s_itIsSetAsTheMakeHasIt() {
        AskewLetters x = Due.with("m1;k0+2;b00@1+5;s00@2;");
        Due.is("bent", x.lean(0, 0, 1), 7);
        Due.is("set", x.lean(0, 0, 2), 2);
        Due.is("events", x.count(1), 2);
    }

    static void p03_n_aNickIs0To3() {
        AskewLetters x = Due.with("m1;n00@0:0;n01@0:1;n02@0:2;n03@0:3;");
        for (int sign = 0; sign < 4; sign++) {
            Due.is("nick " + sign, x.nicks(0, sign, 0), 1 << sign);
        }
        Due.is("nick 4", Due.fresh("m1;n00@0:4;"), -2003);
        Due.is("nick 9", Due.fresh("m1;n00@0:9;"), -2003);
        Due.is("two digits", Due.fresh("m1;n00@0:11;"), -1010);
    }

    static void p03_n_aNickIsForGood() {
        AskewLetters x = Due.with("m1;n00@5:0;s00@6;n00@7:3;c01;");
        Due.is("after it is set", x.nicks(0, 0, 6), 1);
        Due.is("one more", x.nicks(0, 0, 7), 9);
        Due.is("at the end", x.nicks(0, 0, 365), 9);
    }

    static void p03_c_theDayIs0To6() {
        for (int day = 0; day <= 6; day++) {
            AskewLetters x = Due.with("m1;c0" + day + ";");
            Due.is("clean on " + day, x.dirt(0, 0, day), 0);
            Due.is("cleaned on " + day + ", the day ahead of the next", x.dirt(0, 0, day + 6), 6);
        }
        for (int day = 7; day <= 9; day++) {
            Due.is("c " + day, Due.fresh("m1;c0" + day + ";"), -2003);
        }
    }

    static void p03_c_0AtFirst() {
        AskewLetters x = Due.with("m1;m1;c03;");
        Due.is("of day 0", x.dirt(1, 0, 0), 0);
        Due.is("of day 6", x.dirt(1, 0, 6), 6);
        Due.is("of day 7", x.dirt(1, 0, 7), 0);
    }

    static void p03_c_toldAgainItTakesThePlace() {
        AskewLetters x = Due.with("m1;c03;c05;");
        Due.is("in one book", x.dirt(0, 0, 5), 0);
        Due.is("the first is gone", x.dirt(0, 0, 3), 5);
        Due.bookOf(x, "c01;");
        Due.is("in another", x.dirt(0, 0, 1), 0);
        Due.bookOf(x, "c00;");
        Due.is("by 0", x.dirt(0, 0, 0), 0);
    }

    static void p03_leanIsASignAndADigit() {
        String[] heads = {"k0", "m1;b00@5"};
        for (String head : heads) {
            int at = head.length();
            Due.is(head + " without a sign", Due.fresh(head + ":5;"), -1000 - at);
            Due.is(head + " with two signs", Due.fresh(head + "+-5;"), -1001 - at);
            Due.is(head + " without a digit", Due.fresh(head + "+;"), -1001 - at);
            Due.is(head + " with two digits", Due.fresh(head + "-10;"), -1002 - at);
        }
    }

    static void p03_20EventsAtMost() {
        AskewLetters x = Due.with("m1;", EIGHT_EVENTS, EIGHT_EVENTS);
        Due.is("5 more than 16", Due.bookOf(x, "s00@0;n00@0:1;b00@0+1;s00@0;s00@0;"), -2028);
        Due.is("still 16", x.count(1), 16);
        Due.is("4 more than 16", Due.bookOf(x, "s00@0;n00@0:1;b00@0+1;s00@0;"), 4);
        Due.is("20", x.count(1), 20);
        String[] more = {"b00@0+1;", "s00@0;", "n00@0:1;"};
        for (String statement : more) {
            Due.is("the 21st " + statement, Due.bookOf(x, statement), -2000);
        }
        Due.is("20 still", x.count(1), 20);
    }

    static void p03_mKAndCAreNoEvents() {
        AskewLetters x = Due.with("m1;k0+1;c01;", EIGHT_EVENTS, EIGHT_EVENTS);
        Due.is("events", x.count(1), 16);
        Due.bookOf(x, "s00@0;s00@0;s00@0;s00@0;");
        Due.is("with 20 events", Due.bookOf(x, "c06;k0+1;m1;"), 3);
        Due.is("events still", x.count(1), 20);
    }

    static void p03_numbersMayBeginWith0() {
        weightIs("m01;", 1);
        weightIs("m09;", 9);
        AskewLetters x = Due.with("m1;b00@010+1;s01@00;n01@08:3;");
        Due.is("010 is ten, not before", x.lean(0, 0, 9), 0);
        Due.is("010 is ten", x.lean(0, 0, 10), 1);
        Due.is("08 is eight", x.nicks(0, 1, 8), 8);
        Due.is("08 is eight, not before", x.nicks(0, 1, 7), 0);
    }

    static void p03_fault1IsThePlaceOfTheFirstByteWithWhichNoBookCanGoOn() {
        String[] texts = {";", "x", "M1;", " m1;", "m+", "m5:", "m123;", "m5;x", "m5; m5;", "m5;;", "k+1;", "k1;", "k1+;",
            "k1+55", "k11+5;", "m5;bx", "m5;b0@", "m5;b00+", "m5;b00@;", "m5;b00@1;", "m5;b00@1:", "m5;b00@1234+1;",
            "m5;b00@1+1+", "m5;b000@1+1;", "m5;b00@-1+1;", "m5;s00@1+1;", "m5;s00@1:1;", "m5;n00@1;", "m5;n00@1+1;",
            "m5;n00@1:;", "m5;c;", "m5;c0;", "m5;c0@", "m5;c000;", "m5\0", "\u00ffm5;", "m5;a00@1+1;", "m5;\n"};
        int[] places = {0, 0, 0, 0, 1, 2, 3, 3, 3, 3, 1, 2, 3, 4, 2, 4, 5, 6, 7, 8, 8, 10, 10, 6, 7, 8, 8, 8, 8, 9, 4, 5, 5, 6,
            2, 0, 3, 3};
        for (int i = 0; i < texts.length; i++) {
            Due.is("book of " + texts[i], Due.fresh(texts[i]), -1000 - places[i]);
        }
    }

    static void p03_fault1IsTheEndIfSomethingLacks() {
        String[] whole = {"m15;", "k1+5;", "m5;b00@365+1;", "m5;s00@365;", "m5;n00@365:3;", "m5;c06;"};
        for (String text : whole) {
            for (int n = text.lastIndexOf(';', text.length() - 2) + 2; n < text.length(); n++) {
                Due.is("the first " + n + " of " + text, Due.fresh(text.substring(0, n)), -1000 - n);
            }
        }
    }

    static void p03_fault1AtTheEndOfAFullTape() {
        Due.is("21 machines and a letter", Due.fresh("m1;".repeat(21) + "m"), -1064);
        Due.is("behind 63 bytes", Due.fresh("k0+0;".repeat(12) + "m1;k"), -1064);
    }

    static void p03_fault1GoesAheadOfFault2() {
        Due.is("m0 and x", Due.fresh("m0;b90@999+1;x"), -1013);
        Due.is("m0 and an end that lacks", Due.fresh("m0;m"), -1004);
    }

    static void p03_fault2IsThePlaceOfTheLetterOfTheFirstStatementThatIsNotAsItMustBe() {
        Due.is("the first", Due.fresh("m0;m0;"), -2000);
        Due.is("the second", Due.fresh("m1;c07;c10;"), -2003);
        Due.is("the third, behind a longer one", Due.fresh("m1;b00@000+1;m0;"), -2013);
        Due.is("the last", Due.fresh("m1;k1+4;c03;b01@0+1;n01@0:1;c07;"), -2028);
        Due.is("a number ahead of a machine", Due.fresh("m1;n00@0:4;c10;"), -2003);
        Due.is("a machine ahead of a number", Due.fresh("m1;c10;n00@0:4;"), -2003);
    }

    static void p03_fault2OfAMachineThatIsNotThereAheadOfIt() {
        String[] statements = {"b#0@0+1;", "s#0@0;", "n#0@0:1;", "c#0;"};
        for (String statement : statements) {
            Due.is(statement + " of none", Due.fresh(statement.replace("#", "0")), -2000);
            Due.is(statement + " of 1", Due.fresh("m1;" + statement.replace("#", "1")), -2003);
            Due.is(statement + " of 9", Due.fresh("m1;" + statement.replace("#", "9")), -2003);
            Due.is(statement + " ahead of its machine", Due.fresh(statement.replace("#", "0") + "m1;"), -2000);
            Due.is(statement + " behind its machine", Due.fresh("m1;m1;" + statement.replace("#", "1")), 3);
        }
    }

    static void p03_fault2OfNoRoomIsTheFirstThatFindsNone() {
        Due.is("21 machines", Due.fresh("m1;".repeat(21)), -2018);
        AskewLetters x = Due.with("m1;", EIGHT_EVENTS, EIGHT_EVENTS);
        Due.is("events from the 21st on", Due.bookOf(x, "s00@0;".repeat(7)), -2024);
    }

    static void p03_withAFaultNothingComes() {
        String[] ends = {"c07;", "m0;", "b90@0+1;", "x", "c"};
        int[] dues = {-2028, -2028, -2028, -1028, -1029};
        for (int i = 0; i < ends.length; i++) {
            AskewLetters x = Due.with("m1;k1+3;c02;");
            x.set(2, 0);
            Due.is("fault " + ends[i], Due.bookOf(x, "m9;k1+4;c03;b01@0+1;n01@0:1;" + ends[i]), dues[i]);
            Due.is("machines", x.count(0), 1);
            Due.is("events", x.count(1), 0);
            Due.is("make", x.lean(0, 1, 0), 3);
            Due.is("nicks", x.nicks(0, 1, 365), 0);
            Due.is("cleaned", x.dirt(0, 1, 2), 0);
            Due.is("weights", x.odds(0, 0, 1), 1);
        }
    }

    static void p03_withAFaultNoMachineComes() {
        AskewLetters x = new AskewLetters();
        Due.is("fault 2", Due.bookOf(x, "m1;m2;c07;"), -2006);
        Due.is("machines", x.count(0), 0);
        Due.is("fault 1", Due.bookOf(x, "m1;m2;c"), -1007);
        Due.is("machines", x.count(0), 0);
        Due.is("no room", Due.bookOf(x, "m1;".repeat(7)), -2018);
        Due.is("machines", x.count(0), 0);
        Due.is("and there is room for 6", Due.bookOf(x, "m1;".repeat(6)), 6);
    }

    static void p03_nothingIsCountedOfAFault() {
        AskewLetters x = new AskewLetters();
        x.book();
        Due.bookOf(x, "x");
        Due.bookOf(x, "m0;");
        Due.bookOf(x, "c00;");
        Due.bookOf(x, "m1;".repeat(7));
        for (int what = 11; what <= 16; what++) {
            Due.is("count " + what, x.count(what), 0);
        }
    }
}
