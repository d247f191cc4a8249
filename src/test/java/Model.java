import java.math.BigInteger;
import java.util.ArrayList;
import java.util.Comparator;
import java.util.HashSet;
import java.util.List;
import java.util.Set;
import java.util.regex.Matcher;
import java.util.regex.Pattern;

/**
 * A second writing of the document, as plain and as unlike the class as may be: whole numbers without an end, texts read by
 * patterns, everything worked out anew for each answer.
 */
final class Model {
    private static final Pattern BOOK = Pattern.compile(
        "(?:m\\d{1,2};|k\\d[+-]\\d;|b\\d\\d@\\d{1,3}[+-]\\d;|s\\d\\d@\\d{1,3};|n\\d\\d@\\d{1,3}:\\d;|c\\d\\d;)+");
    private static final BigInteger HUNDRED = BigInteger.valueOf(100);

    private record Event(char letter, int machine, int sign, int day, int value) { }

    private record Stroke(int sign, int lean, int nicks, int dirt, int force) { }

    private static final class Refused extends RuntimeException {
        private static final long serialVersionUID = 1;
        private final int code;

        Refused(int code) {
            super(null, null, false, false);
            this.code = code;
        }
    }

    private interface Answer {
        long get();
    }

    private static final class All implements Cloneable {
        List<Integer> weights = new ArrayList<>();
        List<Integer> cleaned = new ArrayList<>();
        int[] make = new int[10];
        int[] rates = {4, 4, 4, 4, 4, 4, 4, 4, 4, 4};
        int[] set = {4, 6, 5, 0, 20};
        List<Event> events = new ArrayList<>();
        List<Stroke> page = new ArrayList<>();
        List<String> hands = new ArrayList<>();
        List<int[]> known = new ArrayList<>();

        All twin() {
            All t = new All();
            t.weights.addAll(weights);
            t.cleaned.addAll(cleaned);
            t.make = make.clone();
            t.rates = rates.clone();
            t.set = set.clone();
            t.events.addAll(events);
            t.page.addAll(page);
            t.hands.addAll(hands);
            t.known.addAll(known);
            return t;
        }
    }

    private All all = new All();
    private All image = null;
    private String tape = "";
    private final List<Integer> row = new ArrayList<>();
    private final int[] refusals = new int[7];

    private long ask(Answer a, long base) {
        try {
            return a.get();
        } catch (Refused r) {
            refusals[-r.code]++;
            return base - r.code;
        }
    }

    private int plain(Answer a) {
        try {
            return (int) a.get();
        } catch (Refused r) {
            refusals[-r.code]++;
            return r.code;
        }
    }

    private static void unless(boolean fine, int code) {
        if (!fine) {
            throw new Refused(code);
        }
    }

    private void machineIs(int m) {
        unless(m >= 0 && m < all.weights.size(), -1);
    }

    private static void dayIs(int day, int last) {
        unless(day >= 0, -4);
        unless(day <= last, -6);
    }

    int feed(int n, long bytes) {
        return plain(() -> {
            unless(n >= 1, -4);
            unless(n <= 8, -6);
            unless(tape.length() + n <= 64, -6);
            for (int i = 0; i < n; i++) {
                tape += (char) (bytes >> 8 * i & 0xff);
            }
            return tape.length();
        });
    }

    int book() {
        String text = tape;
        tape = "";
        if (!BOOK.matcher(text).matches()) {
            int viable = 0;
            while (viable < text.length() && canGoOn(text.substring(0, viable + 1))) {
                viable++;
            }
            return -1000 - viable;
        }
        All next = all.twin();
        String[] statements = text.split(";");
        int place = 0;
        for (String s : statements) {
            if (!comes(next, s)) {
                return -2000 - place;
            }
            place += s.length() + 1;
        }
        all = next;
        return statements.length;
    }

    private static boolean canGoOn(String text) {
        Matcher m = BOOK.matcher(text);
        return m.matches() || m.hitEnd();
    }

    private static boolean comes(All to, String s) {
        char letter = s.charAt(0);
        if (letter == 'm') {
            int weight = Integer.parseInt(s.substring(1));
            to.weights.add(weight);
            to.cleaned.add(0);
            return weight >= 1 && to.weights.size() <= 6;
        }
        if (letter == 'k') {
            to.make[s.charAt(1) - '0'] = Integer.parseInt(s.substring(2));
            return true;
        }
        int machine = s.charAt(1) - '0';
        if (machine >= to.weights.size()) {
            return false;
        }
        int second = s.charAt(2) - '0';
        if (letter == 'c') {
            to.cleaned.set(machine, second);
            return second <= 6;
        }
        String[] parts = s.substring(4).split("(?=[+:-])");
        int day = Integer.parseInt(parts[0]);
        int value = parts.length < 2 ? 0 : Integer.parseInt(parts[1].replace(":", ""));
        to.events.add(new Event(letter, machine, second, day, value));
        return day <= 365 && (letter != 'n' || value <= 3) && to.events.size() <= 20;
    }

    private int leanAt(int machine, int sign, int day) {
        List<Event> events = new ArrayList<>(all.events);
        events.removeIf(e -> e.machine != machine || e.sign != sign || e.day > day || e.letter == 'n');
        events.sort(Comparator.comparingInt(Event::day));
        int lean = all.make[sign];
        for (Event e : events) {
            lean = e.letter == 's' ? all.make[sign] : lean + e.value;
        }
        return held(lean);
    }

    private static int held(int lean) {
        return lean > 9 ? 9 : lean < -9 ? -9 : lean;
    }

    private int nicksAt(int machine, int sign, int day) {
        int bits = 0;
        for (Event e : all.events) {
            if (e.letter == 'n' && e.machine == machine && e.sign == sign && e.day <= day) {
                bits |= new int[] {1, 2, 4, 8}[e.value];
            }
        }
        return bits;
    }

    private int dirtAt(int machine, int sign, int day) {
        int since = 0;
        for (int d = day; Math.floorMod(d, 7) != all.cleaned.get(machine); d--) {
            since++;
        }
        return (int) Math.floor(since * all.rates[sign] / 4.0);
    }

    private void barIs(int machine, int sign, int day) {
        machineIs(machine);
        unless(sign >= 0 && sign <= 9, -1);
        dayIs(day, 365);
    }

    int lean(int machine, int sign, int day) {
        return (int) ask(() -> {
            barIs(machine, sign, day);
            return leanAt(machine, sign, day);
        }, 1000000000);
    }

    int nicks(int machine, int sign, int day) {
        return plain(() -> {
            barIs(machine, sign, day);
            return nicksAt(machine, sign, day);
        });
    }

    int dirt(int machine, int sign, int day) {
        return plain(() -> {
            barIs(machine, sign, day);
            return dirtAt(machine, sign, day);
        });
    }

    int rate(int sign, int v) {
        return plain(() -> {
            unless(sign >= 0 && sign <= 9, -1);
            dayIs(v, 9);
            int before = all.rates[sign];
            all.rates[sign] = v;
            return before;
        });
    }

    int set(int what, int v) {
        return plain(() -> {
            unless(what >= 0 && what <= 4, -2);
            unless(v >= (what == 4 ? 1 : 0), -4);
            unless(v <= new int[] {8, 31, 99, 3, 60}[what], -6);
            int before = all.set[what];
            all.set[what] = v;
            return before;
        });
    }

    int stroke(int sign, int lean, int nicks, int dirt, int force) {
        return plain(() -> {
            unless(sign >= 0 && sign <= 9, -1);
            unless(lean >= -9 && nicks >= 0 && dirt >= 0 && force >= 0, -4);
            unless(lean <= 9 && nicks <= 15 && dirt <= 13 && force <= 9 && all.page.size() < 30, -6);
            all.page.add(new Stroke(sign, lean, nicks, dirt, force));
            return all.page.size();
        });
    }

    private static List<Stroke> counting(List<Stroke> page) {
        Set<Integer> signs = new HashSet<>();
        List<Stroke> counting = new ArrayList<>();
        for (Stroke s : page) {
            if (signs.add(s.sign) && signs.size() <= 5) {
                counting.add(s);
            }
        }
        return counting;
    }

    private boolean counts(int i) {
        return counting(all.page.subList(0, i + 1)).size() > counting(all.page.subList(0, i)).size();
    }

    int strokeOf(int i, int what) {
        return plain(() -> {
            unless(i >= 0 && i < all.page.size(), -1);
            unless(what >= 0 && what <= 5, -2);
            Stroke s = all.page.get(i);
            return new int[] {s.sign, s.lean + 10, s.nicks, s.dirt, s.force, counts(i) ? 1 : 0}[what];
        });
    }

    int clear() {
        int before = all.page.size();
        all.page.clear();
        return before;
    }

    private int factorAt(Stroke s, int machine, int day, int kind) {
        int lean = leanAt(machine, s.sign, day);
        int nicks = nicksAt(machine, s.sign, day);
        int standing = Math.max(all.set[0] + 1 - Math.abs(lean - s.lean), 1);
        int nicked = s.nicks == nicks ? 4 : (s.nicks & nicks) == s.nicks ? 2 : 1;
        int dirty = Math.max(3 - (int) Math.floor(Math.abs(dirtAt(machine, s.sign, day) - s.dirt) / 2.0), 1);
        int made = lean == all.make[s.sign] ? 1 : standing;
        return new int[] {1, standing, nicked, dirty, made}[kind];
    }

    int factor(int i, int machine, int day, int kind) {
        return plain(() -> {
            unless(i >= 0 && i < all.page.size(), -1);
            machineIs(machine);
            unless(kind >= 0 && kind <= 4, -2);
            dayIs(day, 365);
            return factorAt(all.page.get(i), machine, day, kind);
        });
    }

    private BigInteger likeAt(List<Stroke> page, Set<Integer> kinds, int machine, int day) {
        BigInteger like = BigInteger.ONE;
        for (Stroke s : counting(page)) {
            for (int kind : kinds) {
                like = like.multiply(BigInteger.valueOf(factorAt(s, machine, day, kind)));
            }
        }
        return like;
    }

    private Set<Integer> used() {
        Set<Integer> kinds = new HashSet<>();
        for (int kind = 0; kind < 5; kind++) {
            if (BigInteger.valueOf(all.set[1]).testBit(kind)) {
                kinds.add(kind);
            }
        }
        return kinds;
    }

    long like(int machine, int day) {
        return ask(() -> {
            machineIs(machine);
            dayIs(day, 365);
            return likeAt(all.page, used(), machine, day).longValueExact();
        }, 4000000000000000000L);
    }

    long copy(int machine, int day) {
        return ask(() -> {
            machineIs(machine);
            dayIs(day, 365);
            Set<Integer> kinds = used();
            kinds.remove(2);
            kinds.remove(3);
            return likeAt(all.page, kinds, machine, day).longValueExact();
        }, 4000000000000000000L);
    }

    private BigInteger share(List<Stroke> page, int machine, int day) {
        if (machine == 6) {
            return BigInteger.TWO.pow(counting(page).size()).multiply(BigInteger.valueOf(all.set[2]));
        }
        return likeAt(page, used(), machine, day).multiply(BigInteger.valueOf(all.weights.get(machine)));
    }

    private BigInteger total(List<Stroke> page, int day) {
        BigInteger total = share(page, 6, day);
        for (int m = 0; m < all.weights.size(); m++) {
            total = total.add(share(page, m, day));
        }
        return total;
    }

    private static long part(BigInteger above, BigInteger below, int part) {
        BigInteger common = above.gcd(below);
        return (part == 0 ? above : below).divide(common).longValueExact();
    }

    long odds(int machine, int day, int part) {
        return ask(() -> {
            if (machine != 6) {
                machineIs(machine);
            }
            unless(part == 0 || part == 1, -2);
            dayIs(day, 365);
            BigInteger total = total(all.page, day);
            unless(total.signum() > 0, -3);
            return part(share(all.page, machine, day), total, part);
        }, 4000000000000000000L);
    }

    int which(int day) {
        return plain(() -> {
            dayIs(day, 365);
            unless(total(all.page, day).signum() > 0, -3);
            int which = 6;
            for (int m = all.weights.size() - 1; m >= 0; m--) {
                if (share(all.page, m, day).compareTo(share(all.page, which, day)) >= 0) {
                    which = m;
                }
            }
            return which;
        });
    }

    int many(int day) {
        return plain(() -> {
            dayIs(day, 365);
            int many = 0;
            for (int m = 0; m < all.weights.size(); m++) {
                boolean fits = true;
                for (Stroke s : counting(all.page)) {
                    fits &= Math.abs(s.lean - leanAt(m, s.sign, day)) <= all.set[0];
                    fits &= (nicksAt(m, s.sign, day) & s.nicks) == s.nicks;
                }
                many += fits ? 1 : 0;
            }
            return many;
        });
    }

    long when(int machine, int day, int part) {
        return ask(() -> {
            machineIs(machine);
            unless(part == 0 || part == 1, -2);
            dayIs(day, 36);
            BigInteger total = BigInteger.ZERO;
            for (int d = 0; d <= 360; d += 10) {
                total = total.add(likeAt(all.page, used(), machine, d));
            }
            return part(likeAt(all.page, used(), machine, 10 * day), total, part);
        }, 4000000000000000000L);
    }

    private BigInteger bestLike(List<Stroke> page, Set<Integer> kinds, int machine) {
        BigInteger best = BigInteger.ZERO;
        for (int d = 0; d <= 360; d += 10) {
            best = best.max(likeAt(page, kinds, machine, d));
        }
        return best;
    }

    int most(int machine, int what) {
        return plain(() -> {
            machineIs(machine);
            unless(what >= 0 && what <= 2, -2);
            BigInteger best = bestLike(all.page, used(), machine);
            List<Integer> greatest = new ArrayList<>();
            List<Integer> near = new ArrayList<>();
            for (int d = 0; d <= 360; d += 10) {
                BigInteger like = likeAt(all.page, used(), machine, d);
                if (like.equals(best)) {
                    greatest.add(d);
                }
                if (like.shiftLeft(1).compareTo(best) >= 0) {
                    near.add(d);
                }
            }
            return what == 0 ? greatest.get(0) : what == 1 ? near.get(0) : near.get(near.size() - 1);
        });
    }

    private BigInteger splitAt(int machine, int p) {
        List<Stroke> page = all.page;
        return bestLike(page.subList(0, p), Set.of(1, 2), machine)
            .multiply(bestLike(page.subList(p, page.size()), Set.of(1, 2), machine));
    }

    private int bestSplit(int machine) {
        machineIs(machine);
        unless(all.page.size() >= 2, -3);
        int best = 1;
        BigInteger greatest = splitAt(machine, 1);
        for (int p = 2; p < all.page.size(); p++) {
            BigInteger here = splitAt(machine, p);
            if (here.compareTo(greatest) > 0) {
                best = p;
                greatest = here;
            }
        }
        return best;
    }

    int sittings(int machine) {
        return plain(() -> bestSplit(machine));
    }

    int gain(int machine) {
        return plain(() -> splitAt(machine, bestSplit(machine)).divide(bestLike(all.page, Set.of(1, 2), machine))
            .min(BigInteger.valueOf(1000000000)).intValueExact());
    }

    int against(int machine, int day) {
        return plain(() -> {
            machineIs(machine);
            dayIs(day, 365);
            int found = -9;
            long least = Long.MAX_VALUE;
            for (int i = 0; i < all.page.size(); i++) {
                long product = likeAt(all.page.subList(i, i + 1), used(), machine, day).longValueExact();
                if (counts(i) && product < least) {
                    found = i;
                    least = product;
                }
            }
            return found;
        });
    }

    int need(int machine, int day, int hundredths) {
        return plain(() -> {
            machineIs(machine);
            unless(day >= 0 && hundredths >= 0, -4);
            unless(day <= 365 && hundredths <= 100, -6);
            for (int n = 1; n <= all.page.size(); n++) {
                List<Stroke> first = all.page.subList(0, n);
                BigInteger has = share(first, machine, day).multiply(HUNDRED);
                if (has.compareTo(total(first, day).multiply(BigInteger.valueOf(hundredths))) >= 0) {
                    return n;
                }
            }
            return -9;
        });
    }

    int hand(long forces) {
        return plain(() -> {
            unless(forces >= 0, -4);
            unless(Long.toString(forces).length() <= 10 && all.hands.size() < 4, -6);
            all.hands.add(String.format("%010d", forces));
            return all.hands.size() - 1;
        });
    }

    private int forceOf(int hand, int sign) {
        return all.hands.get(hand).charAt(9 - sign) - '0';
    }

    private int handsLike(int hand) {
        int sum = 0;
        for (Stroke s : all.page) {
            sum += Math.max(6 - Math.abs(s.force - forceOf(hand, s.sign)), 1);
        }
        return sum;
    }

    int handLike(int hand) {
        return plain(() -> {
            unless(hand >= 0 && hand < all.hands.size(), -1);
            return handsLike(hand);
        });
    }

    int whose() {
        int whose = -9;
        for (int h = all.hands.size() - 1; h >= 0; h--) {
            if (whose == -9 || handsLike(h) >= handsLike(whose)) {
                whose = h;
            }
        }
        return whose;
    }

    int pale() {
        int pale = -9;
        BigInteger[] least = null;
        for (int sign = 0; sign < 10; sign++) {
            int sum = 0;
            int strokes = 0;
            for (Stroke s : all.page) {
                sum += s.sign == sign ? s.force : 0;
                strokes += s.sign == sign ? 1 : 0;
            }
            BigInteger[] mean = {BigInteger.valueOf(sum), BigInteger.valueOf(strokes)};
            if (strokes > 0 && (least == null || mean[0].multiply(least[1]).compareTo(least[0].multiply(mean[1])) < 0)) {
                pale = sign;
                least = mean;
            }
        }
        return pale;
    }

    int type(int machine, int day, int hand, int signs, int z) {
        return plain(() -> {
            machineIs(machine);
            unless(hand >= 0 && hand < all.hands.size(), -1);
            unless(signs >= 1 && day >= 0, -4);
            String told = new StringBuilder(Integer.toString(signs)).reverse().toString();
            unless(day <= 365 && all.page.size() + told.length() <= 30, -6);
            int wander = all.set[3];
            long seed = z & 0xffffffffL;
            for (char c : told.toCharArray()) {
                int sign = c - '0';
                seed = (seed * 1664525 + 1013904223) % (1L << 32);
                int draw = (int) (seed % (1L << 31) / 256 % (2 * wander + 1));
                all.page.add(new Stroke(sign, held(leanAt(machine, sign, day) + draw - wander),
                    nicksAt(machine, sign, day), dirtAt(machine, sign, day), forceOf(hand, sign)));
            }
            return all.page.size();
        });
    }

    private List<Integer> ribbon() {
        List<Integer> places = new ArrayList<>();
        int at = 0;
        int step = 1;
        for (int i = 0; i < all.page.size(); i++) {
            places.add(at);
            if (at + step < 0 || at + step >= all.set[4]) {
                step = -step;
            } else {
                at += step;
            }
        }
        return places;
    }

    int over(int place) {
        return plain(() -> {
            unless(place >= 0 && place < all.set[4], -1);
            return ribbon().stream().filter(p -> p == place).count();
        });
    }

    int readBack(int place) {
        return plain(() -> {
            unless(place >= 0 && place < all.set[4], -1);
            int last = ribbon().lastIndexOf(place);
            return last < 0 ? -9 : all.page.get(last).sign;
        });
    }

    int laid() {
        List<Integer> places = ribbon();
        int laid = -9;
        for (int i = places.size() - 1; i >= 0; i--) {
            for (int j = i + 1; j < places.size(); j++) {
                if (places.get(i).intValue() == places.get(j).intValue() && all.page.get(i).sign != all.page.get(j).sign) {
                    laid = i;
                }
            }
        }
        return laid;
    }

    int known(int told, int real) {
        return plain(() -> {
            unless(told >= -9 && real >= -9, -4);
            unless(told <= 9 && real <= 9 && all.known.size() < 20, -6);
            all.known.add(new int[] {told, real});
            return all.known.size();
        });
    }

    int reader(int part) {
        return (int) ask(() -> {
            unless(part == 0 || part == 1, -2);
            unless(!all.known.isEmpty(), -3);
            BigInteger sum = BigInteger.ZERO;
            for (int[] k : all.known) {
                sum = sum.add(BigInteger.valueOf(k[0])).subtract(BigInteger.valueOf(k[1]));
            }
            return part(sum, BigInteger.valueOf(all.known.size()), part);
        }, 1000000000);
    }

    int row(int v) {
        return plain(() -> {
            dayIs(v, 9);
            unless(row.size() < 30, -6);
            row.add(v);
            return row.size();
        });
    }

    int judge() {
        int answer = -9;
        for (int i = Math.max(row.size(), all.page.size()) - 1; i >= 0; i--) {
            int told = i < row.size() ? row.get(i) : -1;
            int struck = i < all.page.size() ? all.page.get(i).sign : -1;
            answer = told != struck ? i : answer;
        }
        row.clear();
        return answer;
    }

    int image() {
        image = all.twin();
        return all.weights.size();
    }

    int on() {
        return plain(() -> {
            unless(image != null, -3);
            all = image.twin();
            return all.weights.size();
        });
    }

    int count(int what) {
        if (what >= 11 && what <= 16) {
            return refusals[what - 10];
        }
        int[] counts = {all.weights.size(), all.events.size(), all.page.size(), counting(all.page).size(), all.hands.size(),
            row.size(), tape.length(), all.known.size()};
        return what >= 0 && what < counts.length ? counts[what] : -9;
    }
}
