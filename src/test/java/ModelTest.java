import java.util.ArrayList;
import java.util.List;
import java.util.Random;

/** Long runs of calls on the class and on the model: every answer must be the same. */
final class ModelTest {
    private static final int RUNS = 400;
    private static final int CALLS = 512;

    private final Random random;
    private final AskewLetters x = new AskewLetters();
    private final Model m = new Model();
    private final List<String> calls = new ArrayList<>();
    private String pending = "";

    private ModelTest(long seed) {
        random = new Random(seed);
    }

    public static void main(String[] args) {
        int runs = args.length > 0 ? Integer.parseInt(args[0]) : RUNS;
        for (int run = 0; run < runs; run++) {
            ModelTest t = new ModelTest(run);
            for (int i = 0; i < CALLS; i++) {
                if (!t.step(i)) {
                    System.out.println("run " + run + ": " + t.calls);
                    System.exit(1);
                }
            }
        }
        System.out.println("ModelTest: " + runs + " runs of " + CALLS + " calls are as the model's");
    }

    private boolean same(String call, long got, long due) {
        calls.add(call + "=" + got);
        if (got != due) {
            System.out.println(call + " answered " + got + ", the model " + due);
        }
        return got == due;
    }

    /** Mostly within the bounds, now and then at or beyond them. */
    private int within(int least, int greatest) {
        int kind = random.nextInt(60);
        if (kind == 0) {
            return least - 1;
        }
        if (kind == 1) {
            return greatest + 1;
        }
        if (kind == 2) {
            return random.nextInt();
        }
        if (kind == 3) {
            return random.nextBoolean() ? least : greatest;
        }
        return least + random.nextInt(greatest - least + 1);
    }

    private int machine() {
        return within(0, Math.max(0, m.count(0) - 1));
    }

    private int stroke() {
        return within(0, Math.max(0, m.count(2) - 1));
    }

    private int hand() {
        return within(0, Math.max(0, m.count(4) - 1));
    }

    private int day() {
        return within(0, 365);
    }

    private int sign() {
        return random.nextInt(3) == 0 ? within(0, 9) : within(0, 3);
    }

    private String statement() {
        int machines = Math.max(1, m.count(0));
        int machine = random.nextInt(30) == 0 ? random.nextInt(10) : random.nextInt(machines);
        int sign = random.nextInt(3) == 0 ? random.nextInt(10) : random.nextInt(4);
        int day = random.nextInt(40) == 0 ? random.nextInt(1000) : random.nextInt(random.nextBoolean() ? 366 : 12);
        String dayText = random.nextInt(5) == 0 ? String.format("%03d", day) : Integer.toString(day);
        String bar = machine + "" + sign + "@" + dayText;
        String lean = (random.nextBoolean() ? "+" : "-") + random.nextInt(10);
        switch (random.nextInt(m.count(0) < 2 ? 3 : 10)) {
            case 0: case 1: return "m" + (random.nextInt(20) == 0 ? random.nextInt(3) : 1 + random.nextInt(99)) + ";";
            case 2: return "k" + sign + lean + ";";
            case 3: case 4: case 5: return "b" + bar + lean + ";";
            case 6: return "s" + bar + ";";
            case 7: case 8: return "n" + bar + ":" + (random.nextInt(20) == 0 ? random.nextInt(10) : random.nextInt(4)) + ";";
            default: return "c" + machine + (random.nextInt(20) == 0 ? random.nextInt(10) : random.nextInt(7)) + ";";
        }
    }

    private String text() {
        StringBuilder text = new StringBuilder();
        int statements = 1 + random.nextInt(random.nextInt(4) == 0 ? 12 : 3);
        for (int i = 0; i < statements; i++) {
            text.append(statement());
        }
        if (random.nextInt(8) == 0) {
            int at = random.nextInt(text.length());
            switch (random.nextInt(3)) {
                case 0: text.setCharAt(at, "mkbsnc@:;+-0123456789\u00ff\0".charAt(random.nextInt(23))); break;
                case 1: text.deleteCharAt(at); break;
                default: text.insert(at, "mkbsnc@:;+-0123456789".charAt(random.nextInt(21))); break;
            }
        }
        return text.toString();
    }

    private boolean feedOrBook() {
        if (pending.isEmpty() && random.nextInt(15) == 0) {
            int n = within(1, 8);
            long bytes = random.nextLong();
            return same("feed(" + n + "," + bytes + ")", x.feed(n, bytes), m.feed(n, bytes));
        }
        if (pending.isEmpty() && m.count(6) == 0 && random.nextInt(20) != 0) {
            pending = text();
        }
        if (pending.isEmpty()) {
            return same("book()", x.book(), m.book());
        }
        int n = Math.min(8, pending.length());
        long bytes = 0;
        for (int i = n - 1; i >= 0; i--) {
            bytes = bytes << 8 | pending.charAt(i);
        }
        pending = pending.substring(n);
        return same("feed(" + n + "," + bytes + ")", x.feed(n, bytes), m.feed(n, bytes));
    }

    private boolean step(int i) {
        if (!pending.isEmpty() || i < 20 || random.nextInt(8) == 0) {
            return feedOrBook();
        }
        switch (random.nextInt(4)) {
            case 0: return change();
            case 1: return askOfMachines();
            case 2: return askOfPage();
            default: return random.nextInt(3) == 0 ? rest() : askOfDays();
        }
    }

    private boolean change() {
        int a = sign();
        int b = within(-9, 9);
        switch (random.nextInt(12)) {
            case 0: {
                int v = within(0, 9);
                return same("rate(" + a + "," + v + ")", x.rate(a, v), m.rate(a, v));
            }
            case 1: case 2: {
                int what = within(0, 4);
                int[] top = {8, 31, 99, 3, 60};
                int v = within(0, what >= 0 && what < 5 ? top[what] : 9);
                return same("set(" + what + "," + v + ")", x.set(what, v), m.set(what, v));
            }
            case 3: {
                long forces = random.nextInt(5) == 0 ? random.nextLong() : Math.abs(random.nextLong() % 10000000000L);
                return same("hand(" + forces + ")", x.hand(forces), m.hand(forces));
            }
            case 4: case 5: {
                int machine = machine();
                int day = day();
                int hand = hand();
                int signs = random.nextInt(10) == 0 ? random.nextInt() : random.nextInt(random.nextBoolean() ? 10000 : 100);
                int z = random.nextInt();
                return same("type(" + machine + "," + day + "," + hand + "," + signs + "," + z + ")",
                    x.type(machine, day, hand, signs, z), m.type(machine, day, hand, signs, z));
            }
            case 6: {
                if (random.nextInt(3) != 0) {
                    return same("count(2)", x.count(2), m.count(2));
                }
                return same("clear()", x.clear(), m.clear());
            }
            default: {
                int nicks = random.nextBoolean() ? 0 : within(0, 15);
                int dirt = within(0, 13);
                int force = within(0, 9);
                return same("stroke(" + a + "," + b + "," + nicks + "," + dirt + "," + force + ")",
                    x.stroke(a, b, nicks, dirt, force), m.stroke(a, b, nicks, dirt, force));
            }
        }
    }

    private boolean askOfMachines() {
        int a = machine();
        int s = sign();
        int d = day();
        int part = within(0, 1);
        String args = "(" + a + "," + s + "," + d + ")";
        switch (random.nextInt(9)) {
            case 0: return same("lean" + args, x.lean(a, s, d), m.lean(a, s, d));
            case 1: return same("nicks" + args, x.nicks(a, s, d), m.nicks(a, s, d));
            case 2: return same("dirt" + args, x.dirt(a, s, d), m.dirt(a, s, d));
            case 3: return same("like(" + a + "," + d + ")", x.like(a, d), m.like(a, d));
            case 4: return same("copy(" + a + "," + d + ")", x.copy(a, d), m.copy(a, d));
            case 5: case 6: {
                int who = random.nextInt(4) == 0 ? 6 : a;
                return same("odds(" + who + "," + d + "," + part + ")", x.odds(who, d, part), m.odds(who, d, part));
            }
            case 7: return same("which(" + d + ")", x.which(d), m.which(d));
            default: return same("many(" + d + ")", x.many(d), m.many(d));
        }
    }

    private boolean askOfPage() {
        int i = stroke();
        int a = machine();
        int d = day();
        int place = within(0, 20);
        switch (random.nextInt(9)) {
            case 0: {
                int what = within(0, 5);
                return same("strokeOf(" + i + "," + what + ")", x.strokeOf(i, what), m.strokeOf(i, what));
            }
            case 1: case 2: {
                int kind = within(0, 4);
                return same("factor(" + i + "," + a + "," + d + "," + kind + ")", x.factor(i, a, d, kind), m.factor(i, a, d, kind));
            }
            case 3: {
                int h = hand();
                return same("handLike(" + h + ")", x.handLike(h), m.handLike(h));
            }
            case 4: return same("whose()", x.whose(), m.whose());
            case 5: return same("pale()", x.pale(), m.pale());
            case 6: return same("over(" + place + ")", x.over(place), m.over(place));
            case 7: return same("readBack(" + place + ")", x.readBack(place), m.readBack(place));
            default: return same("laid()", x.laid(), m.laid());
        }
    }

    private boolean askOfDays() {
        int a = machine();
        int d = day();
        int part = within(0, 1);
        switch (random.nextInt(6)) {
            case 0: {
                int tenth = within(0, 36);
                return same("when(" + a + "," + tenth + "," + part + ")", x.when(a, tenth, part), m.when(a, tenth, part));
            }
            case 1: {
                int what = within(0, 2);
                return same("most(" + a + "," + what + ")", x.most(a, what), m.most(a, what));
            }
            case 2: return same("sittings(" + a + ")", x.sittings(a), m.sittings(a));
            case 3: return same("gain(" + a + ")", x.gain(a), m.gain(a));
            case 4: return same("against(" + a + "," + d + ")", x.against(a, d), m.against(a, d));
            default: {
                int h = within(0, 100);
                return same("need(" + a + "," + d + "," + h + ")", x.need(a, d, h), m.need(a, d, h));
            }
        }
    }

    private boolean rest() {
        int what = within(0, 17);
        int told = within(-9, 9);
        int real = within(-9, 9);
        int part = within(0, 1);
        switch (random.nextInt(12)) {
            case 0: case 1: return same("known(" + told + "," + real + ")", x.known(told, real), m.known(told, real));
            case 2: return same("reader(" + part + ")", x.reader(part), m.reader(part));
            case 3: case 4: case 5: {
                int v = m.count(5) < m.count(2) && random.nextInt(10) != 0 ? m.strokeOf(m.count(5), 0) : within(0, 9);
                return same("row(" + v + ")", x.row(v), m.row(v));
            }
            case 6: return same("judge()", x.judge(), m.judge());
            case 7: return random.nextInt(3) != 0 || same("image()", x.image(), m.image());
            case 8: return random.nextInt(3) != 0 || same("on()", x.on(), m.on());
            default: return same("count(" + what + ")", x.count(what), m.count(what));
        }
    }
}
