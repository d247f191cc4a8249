/** Promises 1 to 3: a new object, feed, book. */
final class BookTest {
    private static final Due DUE = new Due("BookTest");

    public static void main(String[] args) {
        newObject();
        feed();
        goodBooks();
        firstKindOfFault();
        secondKindOfFault();
        noRoom();
        faultsChangeNothing();
        DUE.end();
    }

    private static void newObject() {
        AskewLetters x = new AskewLetters();
        for (int what = 0; what <= 7; what++) {
            DUE.is("new count " + what, x.count(what), 0);
        }
        for (int what = 11; what <= 16; what++) {
            DUE.is("new count " + what, x.count(what), 0);
        }
        DUE.is("new first SLIP", x.set(0, 4), 4);
        DUE.is("new first USED", x.set(1, 6), 6);
        DUE.is("new first NOBODY", x.set(2, 5), 5);
        DUE.is("new first WANDER", x.set(3, 0), 0);
        DUE.is("new first LENGTH", x.set(4, 20), 20);
        for (int sign = 0; sign < 10; sign++) {
            DUE.is("new RATE " + sign, x.rate(sign, 4), 4);
        }
    }

    private static void feed() {
        AskewLetters x = new AskewLetters();
        DUE.is("feed 0", x.feed(0, 1), -4);
        DUE.is("feed least", x.feed(Integer.MIN_VALUE, 1), -4);
        DUE.is("feed 9", x.feed(9, 1), -6);
        DUE.is("feed greatest", x.feed(Integer.MAX_VALUE, 1), -6);
        DUE.is("feed refused leaves none", x.count(6), 0);
        for (int i = 1; i <= 7; i++) {
            DUE.is("feed 8", x.feed(8, -1L), 8 * i);
        }
        DUE.is("feed 7", x.feed(7, 0), 63);
        DUE.is("feed 2 above 64", x.feed(2, 0), -6);
        DUE.is("feed 1 to 64", x.feed(1, 0), 64);
        DUE.is("feed 1 above 64", x.feed(1, 0), -6);
        DUE.is("feed 0 on a full tape", x.feed(0, 0), -4);
        DUE.is("count of -4", x.count(14), 3);
        DUE.is("count of -6", x.count(16), 4);

        AskewLetters y = new AskewLetters();
        // Lowest first: "m7;", the byte above n is no part of it.
        DUE.is("feed m7;", y.feed(3, 0x783b376dL), 3);
        DUE.is("book m7;", y.book(), 1);
        AskewLetters z = new AskewLetters();
        DUE.is("feed of a negative long", z.feed(8, 0xff3b376d3b376d3bL), 8);
        DUE.is("book begins with ;", z.book(), -1000);
    }

    private static void goodBooks() {
        DUE.is("m", fresh("m1;"), 1);
        DUE.is("m 99", fresh("m99;"), 1);
        DUE.is("m 01", fresh("m01;"), 1);
        DUE.is("k alone", fresh("k0+9;"), 1);
        DUE.is("k told again", fresh("k9-0;k9-9;"), 2);
        DUE.is("b", fresh("m1;b09@0+1;"), 2);
        DUE.is("b last day", fresh("m1;b09@365-1;"), 2);
        DUE.is("b day with noughts", fresh("m1;b09@007-1;"), 2);
        DUE.is("s", fresh("m1;s00@12;"), 2);
        DUE.is("n", fresh("m1;n00@12:0;n00@12:3;"), 3);
        DUE.is("c", fresh("m1;c00;c06;"), 3);
        DUE.is("6 machines", fresh("m1;m2;m3;m4;m5;m6;"), 6);
        DUE.is("16 statements", fresh("k0+0;m1;m1;m1;m1;m1;m1;c00;c00;c00;c00;c00;c00;c00;c00;c00;"), 16);
        AskewLetters x = Due.with("m1;");
        DUE.is("a machine of an earlier book", Due.bookOf(x, "c06;b00@0+1;"), 2);
        DUE.is("its events", x.count(1), 1);
        DUE.is("book again", Due.bookOf(x, "m2;s10@3;"), 2);
        DUE.is("its machines", x.count(0), 2);
        DUE.is("its events then", x.count(1), 2);
    }

    private static int fresh(String text) {
        return Due.bookOf(new AskewLetters(), text);
    }

    private static void firstKindOfFault() {
        String[] texts = {"", ";", "x", "M1;", " m1;", "m", "m;", "m+", "m5", "m5:", "m123;", "m5;x", "m5; m5;", "m5;;",
            "k", "k+1;", "k1", "k1;", "k1+", "k1+;", "k1+5", "k1+55", "k11+5;",
            "m5;b", "m5;b0", "m5;b00", "m5;b00@", "m5;b00@;", "m5;b00@1", "m5;b00@1;", "m5;b00@1:", "m5;b00@1234+1;",
            "m5;b00@1+", "m5;b00@1+1", "m5;b00@1+1+", "m5;b000@1+1;", "m5;b00@-1+1;",
            "m5;s00@1", "m5;s00@1+1;", "m5;s00@1:1;", "m5;n00@1;", "m5;n00@1:", "m5;n00@1:;", "m5;n00@1:11;",
            "m5;c", "m5;c0", "m5;c0;", "m5;c0@", "m5;c000;", "m5\0", "\u00ffm5;"};
        int[] places = {0, 0, 0, 0, 0, 1, 1, 1, 2, 2, 3, 3, 3, 3,
            1, 1, 2, 2, 3, 3, 4, 4, 2,
            4, 5, 6, 7, 7, 8, 8, 8, 10,
            9, 10, 10, 6, 7,
            8, 8, 8, 8, 9, 9, 10,
            4, 5, 5, 5, 6, 2, 0};
        for (int i = 0; i < texts.length; i++) {
            DUE.is("book of " + texts[i], fresh(texts[i]), -1000 - places[i]);
        }
        DUE.is("kind 1 goes ahead of kind 2", fresh("m0;b90@999+1;x"), -1013);
        DUE.is("lacks at the end of a full tape", fresh("k0+0;k0+0;k0+0;k0+0;k0+0;k0+0;k0+0;k0+0;k0+0;k0+0;k0+0;k0+0;m1;m"), -1064);
    }

    private static void secondKindOfFault() {
        DUE.is("m0", fresh("m0;"), -2000);
        DUE.is("m00", fresh("m1;m00;m0;"), -2003);
        DUE.is("b day 366", fresh("m1;b00@366+1;"), -2003);
        DUE.is("s day 999", fresh("m1;s00@999;"), -2003);
        DUE.is("n day 400", fresh("m1;n00@400:0;"), -2003);
        DUE.is("n 4", fresh("m1;n00@0:4;"), -2003);
        DUE.is("c 7", fresh("m1;c07;"), -2003);
        DUE.is("c of no machine", fresh("c00;"), -2000);
        DUE.is("b of no machine", fresh("m1;k0+1;b10@0+1;m1;"), -2008);
        DUE.is("s of a machine behind it", fresh("s00@0;m1;"), -2000);
        DUE.is("n of machine 9", fresh("m1;n90@0:0;"), -2003);
        DUE.is("the first one of two", fresh("m1;c07;c10;"), -2003);
    }

    private static void noRoom() {
        DUE.is("7 machines", fresh("m1;m2;m3;m4;m5;m6;m7;"), -2018);
        DUE.is("21 machines fill the tape", fresh("m1;".repeat(21)), -2018);
        DUE.is("21 machines and a byte", fresh("m1;".repeat(21) + "m"), -1064);
        AskewLetters x = Due.with("m1;m2;m3;m4;m5;m6;");
        DUE.is("a machine more", Due.bookOf(x, "k0+1;m7;"), -2005);
        String eight = "s00@0;s00@0;s00@0;s00@0;s00@0;s00@0;s00@0;s00@0;";
        DUE.is("8 events", Due.bookOf(x, eight), 8);
        DUE.is("16 events", Due.bookOf(x, eight), 8);
        DUE.is("5 events are one too many", Due.bookOf(x, "s00@0;n00@0:1;b00@0+1;s00@0;s00@0;"), -2028);
        DUE.is("still 16", x.count(1), 16);
        DUE.is("20 events", Due.bookOf(x, "s00@0;n00@0:1;b00@0+1;s00@0;"), 4);
        DUE.is("21 b", Due.bookOf(x, "b00@0+1;"), -2000);
        DUE.is("21 n", Due.bookOf(x, "n00@0:1;"), -2000);
        DUE.is("c and k need no room", Due.bookOf(x, "c06;k0+1;"), 2);
    }

    private static void faultsChangeNothing() {
        AskewLetters x = Due.with("m1;k1+3;c02;");
        DUE.is("fault at its end", Due.bookOf(x, "m1;k1+4;c03;b01@0+1;n01@0:1;c07;"), -2028);
        DUE.is("tape is empty", x.count(6), 0);
        DUE.is("machines", x.count(0), 1);
        DUE.is("events", x.count(1), 0);
        DUE.is("make", x.lean(0, 1, 0), 3);
        DUE.is("cleaned", x.dirt(0, 1, 2), 0);
        DUE.is("kind 1", Due.bookOf(x, "m1;m"), -1004);
        DUE.is("tape is empty again", x.count(6), 0);
        DUE.is("machines again", x.count(0), 1);
        for (int what = 11; what <= 16; what++) {
            DUE.is("no refusal " + what, x.count(what), 0);
        }
    }
}
