/**
 * Machines of one make whose letters stand askew, and pages that were typed on one of them.
 *
 * Every row is made with the object and used again: no call makes an object.
 */
public final class AskewLetters {
    private static final int SIGNS = 10;
    private static final int MACHINES = 6;
    private static final int EVENTS = 20;
    private static final int STROKES = 30;
    private static final int COUNTING = 5;
    private static final int HANDS = 4;
    private static final int KNOWN = 20;
    private static final int TAPE = 64;
    private static final int STATEMENTS = 22;
    private static final int LAST_DAY = 365;
    private static final int WEEK = 7;
    private static final int TENTHS = 37;
    private static final int WIDEST = 9;
    private static final int MOST_GAIN = 1000000000;
    private static final long MOST_FORCES = 9999999999L;
    private static final int INT_DIGITS = 10;

    private static final int NOBODYS = 6;
    private static final int NONE = -9;

    private static final int NOBODY = -1;
    private static final int OTHER = -2;
    private static final int STATE = -3;
    private static final int BELOW = -4;
    private static final int ROOM = -6;
    private static final int HIGH = 1000000000;
    private static final long HIGHEST = 4000000000000000000L;

    private static final int STANDING = 1;
    private static final int NICKED = 2;
    private static final int DIRTY = 3;
    private static final int MADE = 4;
    private static final int KINDS = 5;
    private static final int STANDING_AND_NICKED = 6;
    private static final int NOT_NICKED_NOR_DIRTY = 19;

    private static final int SLIP = 0;
    private static final int USED = 1;
    private static final int NOBODYS_WEIGHT = 2;
    private static final int WANDER = 3;
    private static final int LENGTH = 4;
    private static final int SETTINGS = 5;
    private static final int[] LEAST_SETTING = {0, 0, 0, 0, 1};
    private static final int[] GREATEST_SETTING = {8, 31, 99, 3, 60};

    private final Desk desk = new Desk();
    private final Desk kept = new Desk();
    private boolean imaged = false;
    private final Book tape = new Book();
    private final int[] rowSigns = new int[STROKES];
    private int rowSize = 0;
    private final int[] refusals = new int[7];
    private final Odds chances = new Odds();
    private final Days days = new Days();
    private final Sittings split = new Sittings();

    public AskewLetters() {
    }

    public int feed(int n, long bytes) {
        if (n < 1) {
            return refuse(BELOW);
        }
        if (n > 8 || tape.size + n > TAPE) {
            return refuse(ROOM);
        }
        for (int i = 0; i < n; i++) {
            tape.add((int) (bytes >>> (8 * i)) & 255);
        }
        return tape.size;
    }

    public int book() {
        int answer = tape.faultFor(desk.shop);
        if (answer == 0) {
            answer = tape.bringTo(desk.shop);
        }
        tape.size = 0;
        return answer;
    }

    public int lean(int machine, int sign, int day) {
        int fault = barFault(machine, sign, day);
        return fault != 0 ? HIGH - refuse(fault) : desk.shop.leanOn(machine, sign, day);
    }

    public int nicks(int machine, int sign, int day) {
        int fault = barFault(machine, sign, day);
        return fault != 0 ? refuse(fault) : desk.shop.nicksOn(machine, sign, day);
    }

    public int dirt(int machine, int sign, int day) {
        int fault = barFault(machine, sign, day);
        return fault != 0 ? refuse(fault) : desk.shop.dirtOn(machine, sign, day);
    }

    public int rate(int sign, int v) {
        int fault = isSign(sign) ? rangeFault(v, 0, 9) : NOBODY;
        if (fault != 0) {
            return refuse(fault);
        }
        int before = desk.shop.rate[sign];
        desk.shop.rate[sign] = v;
        return before;
    }

    public int set(int what, int v) {
        if (what < 0 || what >= SETTINGS) {
            return refuse(OTHER);
        }
        int fault = rangeFault(v, LEAST_SETTING[what], GREATEST_SETTING[what]);
        if (fault != 0) {
            return refuse(fault);
        }
        int before = desk.setting[what];
        desk.setting[what] = v;
        return before;
    }

    public int stroke(int sign, int lean, int nicks, int dirt, int force) {
        if (!isSign(sign)) {
            return refuse(NOBODY);
        }
        if (lean < -WIDEST || nicks < 0 || dirt < 0 || force < 0) {
            return refuse(BELOW);
        }
        if (lean > WIDEST || nicks > 15 || dirt > 13 || force > 9 || desk.page.size >= STROKES) {
            return refuse(ROOM);
        }
        return desk.page.add(sign, lean, nicks, dirt, force);
    }

    public int strokeOf(int i, int what) {
        if (!isStroke(i)) {
            return refuse(NOBODY);
        }
        switch (what) {
            case 0: return desk.page.sign[i];
            case 1: return desk.page.lean[i] + 10;
            case 2: return desk.page.nicks[i];
            case 3: return desk.page.dirt[i];
            case 4: return desk.page.force[i];
            case 5: return desk.page.isCounted(i) ? 1 : 0;
            default: return refuse(OTHER);
        }
    }

    public int clear() {
        int before = desk.page.size;
        desk.page.size = 0;
        return before;
    }

    public int factor(int i, int machine, int day, int kind) {
        if (!isStroke(i) || !isMachine(machine)) {
            return refuse(NOBODY);
        }
        if (kind < 0 || kind >= KINDS) {
            return refuse(OTHER);
        }
        int fault = rangeFault(day, 0, LAST_DAY);
        return fault != 0 ? refuse(fault) : desk.factorOf(i, machine, day, kind);
    }

    public long like(int machine, int day) {
        int fault = machineDayFault(machine, day);
        return fault != 0 ? HIGHEST - refuse(fault) : desk.likeOf(desk.setting[USED], machine, day);
    }

    public long copy(int machine, int day) {
        int fault = machineDayFault(machine, day);
        if (fault != 0) {
            return HIGHEST - refuse(fault);
        }
        return desk.likeOf(desk.setting[USED] & NOT_NICKED_NOR_DIRTY, machine, day);
    }

    public long odds(int machine, int day, int part) {
        int fault = isMachine(machine) || machine == NOBODYS ? 0 : NOBODY;
        if (fault == 0 && !isPart(part)) {
            fault = OTHER;
        }
        if (fault == 0) {
            fault = rangeFault(day, 0, LAST_DAY);
        }
        if (fault == 0 && chances.weigh(desk, desk.page.size, day) == 0) {
            fault = STATE;
        }
        return fault != 0 ? HIGHEST - refuse(fault) : leastTerms(chances.share[machine], chances.total, part);
    }

    public int which(int day) {
        int fault = rangeFault(day, 0, LAST_DAY);
        if (fault == 0 && chances.weigh(desk, desk.page.size, day) == 0) {
            fault = STATE;
        }
        return fault != 0 ? refuse(fault) : chances.greatest();
    }

    public int many(int day) {
        int fault = rangeFault(day, 0, LAST_DAY);
        return fault != 0 ? refuse(fault) : desk.fitting(day);
    }

    public long when(int machine, int day, int part) {
        int fault = isMachine(machine) ? 0 : NOBODY;
        if (fault == 0 && !isPart(part)) {
            fault = OTHER;
        }
        if (fault == 0) {
            fault = rangeFault(day, 0, TENTHS - 1);
        }
        if (fault != 0) {
            return HIGHEST - refuse(fault);
        }
        days.weigh(desk, machine);
        return leastTerms(days.like[day], days.total(), part);
    }

    public int most(int machine, int what) {
        if (!isMachine(machine)) {
            return refuse(NOBODY);
        }
        if (what < 0 || what > 2) {
            return refuse(OTHER);
        }
        days.weigh(desk, machine);
        int tenth = what == 0 ? days.best() : what == 1 ? days.firstNear() : days.lastNear();
        return tenth * 10;
    }

    public int sittings(int machine) {
        int fault = sittingsFault(machine);
        if (fault != 0) {
            return refuse(fault);
        }
        split.find(desk, machine);
        return split.place;
    }

    public int gain(int machine) {
        int fault = sittingsFault(machine);
        if (fault != 0) {
            return refuse(fault);
        }
        split.find(desk, machine);
        return split.gained(desk.page);
    }

    public int against(int machine, int day) {
        int fault = machineDayFault(machine, day);
        return fault != 0 ? refuse(fault) : desk.leastStroke(machine, day);
    }

    public int need(int machine, int day, int hundredths) {
        if (!isMachine(machine)) {
            return refuse(NOBODY);
        }
        if (day < 0 || hundredths < 0) {
            return refuse(BELOW);
        }
        if (day > LAST_DAY || hundredths > 100) {
            return refuse(ROOM);
        }
        return chances.strokesFor(desk, machine, day, hundredths);
    }

    public int hand(long forces) {
        if (forces < 0) {
            return refuse(BELOW);
        }
        if (forces > MOST_FORCES || desk.hands.size >= HANDS) {
            return refuse(ROOM);
        }
        return desk.hands.add(forces);
    }

    public int handLike(int hand) {
        return isHand(hand) ? desk.hands.likeOf(hand, desk.page) : refuse(NOBODY);
    }

    public int whose() {
        return desk.hands.likest(desk.page);
    }

    public int pale() {
        return desk.page.palest();
    }

    public int type(int machine, int day, int hand, int signs, int z) {
        if (!isMachine(machine) || !isHand(hand)) {
            return refuse(NOBODY);
        }
        if (signs < 1 || day < 0) {
            return refuse(BELOW);
        }
        if (day > LAST_DAY || desk.page.size + digitsOf(signs) > STROKES) {
            return refuse(ROOM);
        }
        desk.strike(machine, day, hand, signs, z);
        return desk.page.size;
    }

    public int over(int place) {
        return isPlace(place) ? desk.page.strokesAt(place, desk.setting[LENGTH]) : refuse(NOBODY);
    }

    public int readBack(int place) {
        return isPlace(place) ? desk.page.latestAt(place, desk.setting[LENGTH]) : refuse(NOBODY);
    }

    public int laid() {
        return desk.page.firstLaidOver(desk.setting[LENGTH]);
    }

    public int known(int told, int real) {
        if (told < -WIDEST || real < -WIDEST) {
            return refuse(BELOW);
        }
        if (told > WIDEST || real > WIDEST || desk.known >= KNOWN) {
            return refuse(ROOM);
        }
        desk.knownSum += told - real;
        desk.known++;
        return desk.known;
    }

    public int reader(int part) {
        int fault = !isPart(part) ? OTHER : desk.known == 0 ? STATE : 0;
        return fault != 0 ? HIGH - refuse(fault) : (int) leastTerms(desk.knownSum, desk.known, part);
    }

    public int row(int v) {
        if (v < 0) {
            return refuse(BELOW);
        }
        if (v >= SIGNS || rowSize >= STROKES) {
            return refuse(ROOM);
        }
        rowSigns[rowSize] = v;
        rowSize++;
        return rowSize;
    }

    public int judge() {
        int answer = desk.page.firstUnlike(rowSigns, rowSize);
        rowSize = 0;
        return answer;
    }

    public int image() {
        kept.takeFrom(desk);
        imaged = true;
        return desk.shop.machines;
    }

    public int on() {
        if (!imaged) {
            return refuse(STATE);
        }
        desk.takeFrom(kept);
        return desk.shop.machines;
    }

    public int count(int what) {
        switch (what) {
            case 0: return desk.shop.machines;
            case 1: return desk.shop.events;
            case 2: return desk.page.size;
            case 3: return desk.page.pick(0, desk.page.size);
            case 4: return desk.hands.size;
            case 5: return rowSize;
            case 6: return tape.size;
            case 7: return desk.known;
            default: return what > 10 && what < 17 ? refusals[what - 10] : NONE;
        }
    }

    private int refuse(int code) {
        int number = -code;
        if (number > 0 && number < refusals.length) {
            refusals[number]++;
        }
        return code;
    }

    private boolean isMachine(int machine) {
        return machine >= 0 && machine < desk.shop.machines;
    }

    private static boolean isSign(int sign) {
        return sign >= 0 && sign < SIGNS;
    }

    private boolean isStroke(int i) {
        return i >= 0 && i < desk.page.size;
    }

    private boolean isHand(int hand) {
        return hand >= 0 && hand < desk.hands.size;
    }

    private boolean isPlace(int place) {
        return place >= 0 && place < desk.setting[LENGTH];
    }

    private static boolean isPart(int part) {
        return part == 0 || part == 1;
    }

    private static int rangeFault(int v, int least, int greatest) {
        return v < least ? BELOW : v > greatest ? ROOM : 0;
    }

    private int machineDayFault(int machine, int day) {
        return isMachine(machine) ? rangeFault(day, 0, LAST_DAY) : NOBODY;
    }

    private int barFault(int machine, int sign, int day) {
        return isSign(sign) ? machineDayFault(machine, day) : NOBODY;
    }

    private int sittingsFault(int machine) {
        return !isMachine(machine) ? NOBODY : desk.page.size < 2 ? STATE : 0;
    }

    private static int digitsOf(int number) {
        int digits = 0;
        int rest = number;
        while (digits < INT_DIGITS && rest > 0) {
            rest /= 10;
            digits++;
        }
        return digits;
    }

    private static long leastTerms(long above, long below, int part) {
        long common = commonDivisor(Math.abs(above), below);
        if (common == 0) {
            return 0;
        }
        return part == 0 ? above / common : below / common;
    }

    private static long commonDivisor(long a, long b) {
        long greater = a;
        long less = b;
        // Euclid's steps on two longs are fewer than 100.
        for (int step = 0; step < 100 && less != 0; step++) {
            long rest = greater % less;
            greater = less;
            less = rest;
        }
        return greater;
    }

    /** All that an image keeps. */
    private static final class Desk {
        final Shop shop = new Shop();
        final Page page = new Page();
        final Hands hands = new Hands();
        final int[] setting = {4, STANDING_AND_NICKED, 5, 0, 20};
        int known = 0;
        int knownSum = 0;

        void takeFrom(Desk other) {
            shop.takeFrom(other.shop);
            page.takeFrom(other.page);
            hands.takeFrom(other.hands);
            System.arraycopy(other.setting, 0, setting, 0, SETTINGS);
            known = other.known;
            knownSum = other.knownSum;
        }

        int factorOf(int stroke, int machine, int day, int kind) {
            int sign = page.sign[stroke];
            switch (kind) {
                case STANDING:
                    return standing(page.lean[stroke], shop.leanOn(machine, sign, day));
                case NICKED:
                    return nicked(page.nicks[stroke], shop.nicksOn(machine, sign, day));
                case DIRTY:
                    return Math.max(1, 3 - Math.abs(page.dirt[stroke] - shop.dirtOn(machine, sign, day)) / 2);
                case MADE:
                    int lean = shop.leanOn(machine, sign, day);
                    return lean == shop.make[sign] ? 1 : standing(page.lean[stroke], lean);
                default:
                    return 1;
            }
        }

        private int standing(int measured, int lean) {
            return Math.max(1, setting[SLIP] + 1 - Math.abs(measured - lean));
        }

        private static int nicked(int measured, int nicks) {
            return measured == nicks ? 4 : isWithin(measured, nicks) ? 2 : 1;
        }

        private static boolean isWithin(int measured, int nicks) {
            return (measured & ~nicks) == 0;
        }

        int productOf(int used, int stroke, int machine, int day) {
            int product = 1;
            for (int kind = 0; kind < KINDS; kind++) {
                if ((used >> kind & 1) == 1) {
                    product *= factorOf(stroke, machine, day, kind);
                }
            }
            return product;
        }

        long likeOf(int used, int machine, int day) {
            page.pick(0, page.size);
            return likeOfPicked(used, machine, day);
        }

        long likeOfPicked(int used, int machine, int day) {
            long like = 1;
            for (int i = 0; i < page.picks; i++) {
                like *= productOf(used, page.picked[i], machine, day);
            }
            return like;
        }

        int leastStroke(int machine, int day) {
            int stroke = NONE;
            int least = 0;
            page.pick(0, page.size);
            for (int i = 0; i < page.picks; i++) {
                int product = productOf(setting[USED], page.picked[i], machine, day);
                if (stroke == NONE || product < least) {
                    stroke = page.picked[i];
                    least = product;
                }
            }
            return stroke;
        }

        int fitting(int day) {
            int fitting = 0;
            page.pick(0, page.size);
            for (int machine = 0; machine < shop.machines; machine++) {
                if (fits(machine, day)) {
                    fitting++;
                }
            }
            return fitting;
        }

        private boolean fits(int machine, int day) {
            for (int i = 0; i < page.picks; i++) {
                int stroke = page.picked[i];
                int sign = page.sign[stroke];
                if (Math.abs(page.lean[stroke] - shop.leanOn(machine, sign, day)) > setting[SLIP]
                        || !isWithin(page.nicks[stroke], shop.nicksOn(machine, sign, day))) {
                    return false;
                }
            }
            return true;
        }

        /** The caller has looked whether there is room for all. */
        void strike(int machine, int day, int hand, int signs, int seed) {
            int wander = setting[WANDER];
            int z = seed;
            int rest = signs;
            for (int i = 0; i < INT_DIGITS && rest > 0; i++) {
                int sign = rest % 10;
                rest /= 10;
                z = z * 1664525 + 1013904223;
                int lean = shop.leanOn(machine, sign, day) + drawn(z, 2 * wander + 1) - wander;
                page.add(sign, Math.max(-WIDEST, Math.min(WIDEST, lean)), shop.nicksOn(machine, sign, day),
                        shop.dirtOn(machine, sign, day), hands.forceOf(hand, sign));
            }
        }

        private static int drawn(int z, int below) {
            return below < 1 ? 0 : (z & 0x7fffffff) / 256 % below;
        }
    }

    /** The MACHINES with their MAKE, and what befell them. */
    private static final class Shop {
        int machines = 0;
        final int[] weight = new int[MACHINES];
        final int[] cleaned = new int[MACHINES];
        final int[] make = new int[SIGNS];
        final int[] rate = {4, 4, 4, 4, 4, 4, 4, 4, 4, 4};
        // EVENTS stand by DAYS, those of one DAY as they came: so one walk tells what a DAY has.
        int events = 0;
        final int[] letter = new int[EVENTS];
        final int[] machine = new int[EVENTS];
        final int[] sign = new int[EVENTS];
        final int[] day = new int[EVENTS];
        final int[] value = new int[EVENTS];

        void takeFrom(Shop other) {
            machines = other.machines;
            System.arraycopy(other.weight, 0, weight, 0, MACHINES);
            System.arraycopy(other.cleaned, 0, cleaned, 0, MACHINES);
            System.arraycopy(other.make, 0, make, 0, SIGNS);
            System.arraycopy(other.rate, 0, rate, 0, SIGNS);
            events = other.events;
            System.arraycopy(other.letter, 0, letter, 0, EVENTS);
            System.arraycopy(other.machine, 0, machine, 0, EVENTS);
            System.arraycopy(other.sign, 0, sign, 0, EVENTS);
            System.arraycopy(other.day, 0, day, 0, EVENTS);
            System.arraycopy(other.value, 0, value, 0, EVENTS);
        }

        void addMachine(int itsWeight) {
            if (machines < MACHINES) {
                weight[machines] = itsWeight;
                cleaned[machines] = 0;
                machines++;
            }
        }

        void addEvent(int itsLetter, int itsMachine, int itsSign, int itsDay, int itsValue) {
            if (events >= EVENTS) {
                return;
            }
            int at = events;
            while (at > 0 && day[at - 1] > itsDay) {
                moveUp(at - 1);
                at--;
            }
            letter[at] = itsLetter;
            machine[at] = itsMachine;
            sign[at] = itsSign;
            day[at] = itsDay;
            value[at] = itsValue;
            events++;
        }

        private void moveUp(int at) {
            letter[at + 1] = letter[at];
            machine[at + 1] = machine[at];
            sign[at + 1] = sign[at];
            day[at + 1] = day[at];
            value[at + 1] = value[at];
        }

        int leanOn(int ofMachine, int ofSign, int onDay) {
            int bent = 0;
            for (int i = 0; i < events && day[i] <= onDay; i++) {
                if (machine[i] == ofMachine && sign[i] == ofSign) {
                    bent = letter[i] == 's' ? 0 : letter[i] == 'b' ? bent + value[i] : bent;
                }
            }
            return Math.max(-WIDEST, Math.min(WIDEST, make[ofSign] + bent));
        }

        int nicksOn(int ofMachine, int ofSign, int onDay) {
            int nicks = 0;
            for (int i = 0; i < events && day[i] <= onDay; i++) {
                if (letter[i] == 'n' && machine[i] == ofMachine && sign[i] == ofSign) {
                    nicks |= 1 << value[i];
                }
            }
            return nicks;
        }

        int dirtOn(int ofMachine, int ofSign, int onDay) {
            int since = (onDay % WEEK + WEEK - cleaned[ofMachine]) % WEEK;
            return since * rate[ofSign] / 4;
        }
    }

    /** The STROKES that were measured. */
    private static final class Page {
        int size = 0;
        final int[] sign = new int[STROKES];
        final int[] lean = new int[STROKES];
        final int[] nicks = new int[STROKES];
        final int[] dirt = new int[STROKES];
        final int[] force = new int[STROKES];
        int picks = 0;
        final int[] picked = new int[COUNTING];

        void takeFrom(Page other) {
            size = other.size;
            System.arraycopy(other.sign, 0, sign, 0, STROKES);
            System.arraycopy(other.lean, 0, lean, 0, STROKES);
            System.arraycopy(other.nicks, 0, nicks, 0, STROKES);
            System.arraycopy(other.dirt, 0, dirt, 0, STROKES);
            System.arraycopy(other.force, 0, force, 0, STROKES);
        }

        int add(int itsSign, int itsLean, int itsNicks, int itsDirt, int itsForce) {
            if (size < STROKES) {
                sign[size] = itsSign;
                lean[size] = itsLean;
                nicks[size] = itsNicks;
                dirt[size] = itsDirt;
                force[size] = itsForce;
                size++;
            }
            return size;
        }

        /** Picks the STROKES that count, were those from one place up to another the whole PAGE. */
        int pick(int from, int to) {
            int seen = 0;
            picks = 0;
            for (int i = from; i < to && picks < COUNTING; i++) {
                if ((seen >> sign[i] & 1) == 0) {
                    seen |= 1 << sign[i];
                    picked[picks] = i;
                    picks++;
                }
            }
            return picks;
        }

        boolean isCounted(int stroke) {
            pick(0, size);
            for (int i = 0; i < picks; i++) {
                if (picked[i] == stroke) {
                    return true;
                }
            }
            return false;
        }

        int palest() {
            int palest = NONE;
            int leastSum = 0;
            int leastStrokes = 0;
            for (int s = 0; s < SIGNS; s++) {
                int sum = 0;
                int strokes = 0;
                for (int i = 0; i < size; i++) {
                    if (sign[i] == s) {
                        sum += force[i];
                        strokes++;
                    }
                }
                // Means are compared crosswise, so nothing is cut.
                if (strokes > 0 && (palest == NONE || sum * leastStrokes < leastSum * strokes)) {
                    palest = s;
                    leastSum = sum;
                    leastStrokes = strokes;
                }
            }
            return palest;
        }

        private static int placeOf(int stroke, int length) {
            if (length < 1) {
                return NONE;
            }
            int there = stroke % (2 * length);
            return there < length ? there : 2 * length - 1 - there;
        }

        int strokesAt(int place, int length) {
            int strokes = 0;
            for (int i = 0; i < size; i++) {
                if (placeOf(i, length) == place) {
                    strokes++;
                }
            }
            return strokes;
        }

        int latestAt(int place, int length) {
            for (int i = size - 1; i >= 0; i--) {
                if (placeOf(i, length) == place) {
                    return sign[i];
                }
            }
            return NONE;
        }

        int firstLaidOver(int length) {
            for (int i = 0; i < size; i++) {
                for (int later = i + 1; later < size; later++) {
                    if (sign[later] != sign[i] && placeOf(later, length) == placeOf(i, length)) {
                        return i;
                    }
                }
            }
            return NONE;
        }

        int firstUnlike(int[] told, int toldSize) {
            int both = Math.min(size, toldSize);
            for (int i = 0; i < both; i++) {
                if (sign[i] != told[i]) {
                    return i;
                }
            }
            return size == toldSize ? NONE : both;
        }
    }

    /** With what FORCE each HAND strikes the SIGNS. */
    private static final class Hands {
        int size = 0;
        final int[] force = new int[HANDS * SIGNS];

        void takeFrom(Hands other) {
            size = other.size;
            System.arraycopy(other.force, 0, force, 0, HANDS * SIGNS);
        }

        int add(long forces) {
            if (size >= HANDS) {
                return NONE;
            }
            long rest = forces;
            for (int sign = 0; sign < SIGNS; sign++) {
                force[size * SIGNS + sign] = (int) (rest % 10);
                rest /= 10;
            }
            size++;
            return size - 1;
        }

        int forceOf(int hand, int sign) {
            return force[hand * SIGNS + sign];
        }

        int likeOf(int hand, Page page) {
            int like = 0;
            for (int i = 0; i < page.size; i++) {
                like += Math.max(1, 6 - Math.abs(page.force[i] - forceOf(hand, page.sign[i])));
            }
            return like;
        }

        int likest(Page page) {
            int likest = NONE;
            int greatest = 0;
            for (int hand = 0; hand < size; hand++) {
                int like = likeOf(hand, page);
                if (likest == NONE || like > greatest) {
                    likest = hand;
                    greatest = like;
                }
            }
            return likest;
        }
    }

    /** What each MACHINE, and NOBODY'S, has of the ODDS on a DAY. */
    private static final class Odds {
        final long[] share = new long[MACHINES + 1];
        long total = 0;

        /** By the first STROKES alone, as many as told: all shares together. */
        long weigh(Desk desk, int strokes, int day) {
            int counting = desk.page.pick(0, strokes);
            total = 0;
            for (int machine = 0; machine < MACHINES; machine++) {
                share[machine] = machine >= desk.shop.machines ? 0
                        : desk.shop.weight[machine] * desk.likeOfPicked(desk.setting[USED], machine, day);
                total += share[machine];
            }
            share[NOBODYS] = (long) desk.setting[NOBODYS_WEIGHT] << counting;
            total += share[NOBODYS];
            return total;
        }

        int greatest() {
            int greatest = 0;
            for (int i = 1; i < share.length; i++) {
                if (share[i] > share[greatest]) {
                    greatest = i;
                }
            }
            return greatest;
        }

        int strokesFor(Desk desk, int machine, int day, int hundredths) {
            int before = 0;
            for (int n = 1; n <= desk.page.size; n++) {
                int counting = desk.page.pick(0, n);
                // ODDS change only by a STROKE that counts.
                if (counting > before) {
                    weigh(desk, n, day);
                    if (hasHundredths(machine, hundredths)) {
                        return n;
                    }
                }
                before = counting;
            }
            return NONE;
        }

        /** The total is parted by 100 first: a hundred times it may be more than a long holds. */
        private boolean hasHundredths(int machine, int hundredths) {
            long whole = hundredths * (total / 100);
            long rest = (hundredths * (total % 100) + 99) / 100;
            return share[machine] - whole >= rest;
        }
    }

    /** LIKE of the PAGE on DAYS 0, 10, .. 360. */
    private static final class Days {
        final long[] like = new long[TENTHS];

        void weigh(Desk desk, int machine) {
            desk.page.pick(0, desk.page.size);
            for (int tenth = 0; tenth < TENTHS; tenth++) {
                like[tenth] = desk.likeOfPicked(desk.setting[USED], machine, tenth * 10);
            }
        }

        long total() {
            long total = 0;
            for (int tenth = 0; tenth < TENTHS; tenth++) {
                total += like[tenth];
            }
            return total;
        }

        int best() {
            int best = 0;
            for (int tenth = 1; tenth < TENTHS; tenth++) {
                if (like[tenth] > like[best]) {
                    best = tenth;
                }
            }
            return best;
        }

        int firstNear() {
            int best = best();
            for (int tenth = 0; tenth < best; tenth++) {
                if (2 * like[tenth] >= like[best]) {
                    return tenth;
                }
            }
            return best;
        }

        int lastNear() {
            int best = best();
            for (int tenth = TENTHS - 1; tenth > best; tenth--) {
                if (2 * like[tenth] >= like[best]) {
                    return tenth;
                }
            }
            return best;
        }
    }

    /** A PAGE typed at one go or in two. */
    private static final class Sittings {
        // What each STROKE says on each DAY, worked out once for all the places.
        final int[] product = new int[STROKES * TENTHS];
        int place = 0;
        long greatest = 0;

        void find(Desk desk, int machine) {
            Page page = desk.page;
            fill(desk, machine);
            place = 0;
            greatest = 0;
            for (int p = 1; p < page.size; p++) {
                long like = greatestLike(page, 0, p) * greatestLike(page, p, page.size);
                if (like > greatest) {
                    place = p;
                    greatest = like;
                }
            }
        }

        int gained(Page page) {
            long whole = greatestLike(page, 0, page.size);
            return whole < 1 ? 0 : (int) Math.min(MOST_GAIN, greatest / whole);
        }

        private void fill(Desk desk, int machine) {
            for (int i = 0; i < desk.page.size; i++) {
                for (int tenth = 0; tenth < TENTHS; tenth++) {
                    product[i * TENTHS + tenth] = desk.productOf(STANDING_AND_NICKED, i, machine, tenth * 10);
                }
            }
        }

        private long greatestLike(Page page, int from, int to) {
            page.pick(from, to);
            long most = 0;
            for (int tenth = 0; tenth < TENTHS; tenth++) {
                long like = 1;
                for (int i = 0; i < page.picks; i++) {
                    like *= product[page.picked[i] * TENTHS + tenth];
                }
                most = Math.max(most, like);
            }
            return most;
        }
    }

    /** THE TAPE, and the STATEMENTS that are read from it. */
    private static final class Book {
        final int[] text = new int[TAPE];
        int size = 0;
        private int at = 0;
        private int number = 0;
        private int statements = 0;
        private final int[] place = new int[STATEMENTS];
        private final int[] machine = new int[STATEMENTS];
        private final int[] sign = new int[STATEMENTS];
        private final int[] day = new int[STATEMENTS];
        private final int[] value = new int[STATEMENTS];

        void add(int itsByte) {
            if (size < TAPE) {
                text[size] = itsByte;
                size++;
            }
        }

        /** 0, if all of it may come. */
        int faultFor(Shop shop) {
            if (!isRead()) {
                return -1000 - at;
            }
            int wrong = firstWrong(shop.machines, shop.events);
            return wrong < statements ? -2000 - place[wrong] : 0;
        }

        private boolean isRead() {
            at = 0;
            statements = 0;
            do {
                if (statements >= STATEMENTS || !isStatement(statements)) {
                    return false;
                }
                statements++;
            } while (at < size);
            return true;
        }

        private int here() {
            return at >= 0 && at < size ? text[at] : NONE;
        }

        private boolean isStatement(int s) {
            int letter = here();
            place[s] = at;
            if (letter != 'm' && letter != 'k' && letter != 'b' && letter != 's' && letter != 'n' && letter != 'c') {
                return false;
            }
            at++;
            boolean read;
            switch (letter) {
                case 'm': read = isNumber(2); value[s] = number; break;
                case 'k': read = isSignAt(s) && isLeanAt(s); break;
                case 'b': read = isBarAt(s) && isLeanAt(s); break;
                case 's': read = isBarAt(s); break;
                case 'n': read = isBarAt(s) && isByte(':') && isDigitAt(s); break;
                default: read = isMachineAt(s) && isDigitAt(s); break;
            }
            return read && isByte(';');
        }

        private boolean isByte(int due) {
            if (here() != due) {
                return false;
            }
            at++;
            return true;
        }

        /** Takes digits, as many as may come: at least one must. */
        private boolean isNumber(int digits) {
            int taken = 0;
            number = 0;
            while (taken < digits && here() >= '0' && here() <= '9') {
                number = number * 10 + here() - '0';
                at++;
                taken++;
            }
            return taken > 0;
        }

        private boolean isMachineAt(int s) {
            boolean read = isNumber(1);
            machine[s] = number;
            return read;
        }

        private boolean isSignAt(int s) {
            boolean read = isNumber(1);
            sign[s] = number;
            return read;
        }

        private boolean isDigitAt(int s) {
            boolean read = isNumber(1);
            value[s] = number;
            return read;
        }

        private boolean isBarAt(int s) {
            boolean read = isMachineAt(s) && isSignAt(s) && isByte('@') && isNumber(3);
            day[s] = number;
            return read;
        }

        private boolean isLeanAt(int s) {
            boolean down = here() == '-';
            boolean read = (isByte('-') || isByte('+')) && isNumber(1);
            value[s] = down ? -number : number;
            return read;
        }

        /** How many STATEMENTS, if none is wrong. */
        private int firstWrong(int machinesAhead, int eventsAhead) {
            int machines = machinesAhead;
            int events = eventsAhead;
            for (int s = 0; s < statements; s++) {
                int letter = text[place[s]];
                if (letter == 'm') {
                    machines++;
                } else if (letter != 'k' && machine[s] >= machines) {
                    return s;
                }
                if (isEvent(letter)) {
                    events++;
                }
                if (machines > MACHINES || events > EVENTS || !isInRange(letter, s)) {
                    return s;
                }
            }
            return statements;
        }

        private static boolean isEvent(int letter) {
            return letter == 'b' || letter == 's' || letter == 'n';
        }

        private boolean isInRange(int letter, int s) {
            if (isEvent(letter) && day[s] > LAST_DAY) {
                return false;
            }
            switch (letter) {
                case 'm': return value[s] >= 1;
                case 'n': return value[s] <= 3;
                case 'c': return value[s] <= 6;
                default: return true;
            }
        }

        /** Only where there is no FAULT. */
        int bringTo(Shop shop) {
            for (int s = 0; s < statements; s++) {
                switch (text[place[s]]) {
                    case 'm': shop.addMachine(value[s]); break;
                    case 'k': shop.make[sign[s]] = value[s]; break;
                    case 'c': shop.cleaned[machine[s]] = value[s]; break;
                    default: shop.addEvent(text[place[s]], machine[s], sign[s], day[s], value[s]); break;
                }
            }
            return statements;
        }
    }
}
