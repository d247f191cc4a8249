/**
 * What can be seen of an object, asked of a refused one and of its twin that was not asked: only how many REFUSALS there were
 * may be another. Each part is asked of objects of its own, so that no object is used for more than 512 calls.
 */
final class Twin {
    static final int PARTS = 3;

    private Twin() {
    }

    static void isAs(String call, AskewLetters x, AskewLetters twin, int part) {
        switch (part) {
            case 0: pageIsAs(call, x, twin); tapeAndRowAreAs(call, x, twin); break;
            case 1: machinesAreAs(call, x, twin); break;
            default: settingsAreAs(call, x, twin); imageIsAs(call, x, twin); break;
        }
    }

    private static void pageIsAs(String call, AskewLetters x, AskewLetters twin) {
        for (int what = 0; what <= 7; what++) {
            Due.is("count " + what + " after " + call, x.count(what), twin.count(what));
        }
        for (int i = 0; i < twin.count(2); i++) {
            for (int what = 0; what < 5; what++) {
                Due.is("strokeOf " + i + " " + what + " after " + call, x.strokeOf(i, what), twin.strokeOf(i, what));
            }
        }
        for (int hand = 0; hand < twin.count(4); hand++) {
            Due.is("handLike " + hand + " after " + call, x.handLike(hand), twin.handLike(hand));
        }
        Due.is("reader after " + call, x.reader(0), twin.reader(0));
        Due.is("reader below the line after " + call, x.reader(1), twin.reader(1));
    }

    private static void tapeAndRowAreAs(String call, AskewLetters x, AskewLetters twin) {
        Due.is("judge after " + call, x.judge(), twin.judge());
        Due.is("book after " + call, x.book(), twin.book());
        Due.is("machines of that book after " + call, x.count(0), twin.count(0));
    }

    private static void machinesAreAs(String call, AskewLetters x, AskewLetters twin) {
        for (int machine = 0; machine < twin.count(0); machine++) {
            for (int sign = 0; sign < 10; sign++) {
                String of = " of " + machine + " " + sign + " after " + call;
                Due.is("lean" + of, x.lean(machine, sign, 100), twin.lean(machine, sign, 100));
                Due.is("lean at the end" + of, x.lean(machine, sign, 365), twin.lean(machine, sign, 365));
                Due.is("nicks" + of, x.nicks(machine, sign, 365), twin.nicks(machine, sign, 365));
                Due.is("dirt" + of, x.dirt(machine, sign, 6), twin.dirt(machine, sign, 6));
            }
            Due.is("odds after " + call, x.odds(machine, 100, 0), twin.odds(machine, 100, 0));
            Due.is("odds below the line after " + call, x.odds(machine, 100, 1), twin.odds(machine, 100, 1));
        }
    }

    private static void settingsAreAs(String call, AskewLetters x, AskewLetters twin) {
        for (int what = 0; what < 5; what++) {
            Due.is("set " + what + " after " + call, x.set(what, 1), twin.set(what, 1));
        }
        for (int sign = 0; sign < 10; sign++) {
            Due.is("rate " + sign + " after " + call, x.rate(sign, 1), twin.rate(sign, 1));
        }
    }

    private static void imageIsAs(String call, AskewLetters x, AskewLetters twin) {
        Due.is("on after " + call, x.on(), twin.on());
        pageIsAs("on and " + call, x, twin);
    }
}
