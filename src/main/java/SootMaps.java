/** Maps in soot: houses, flues and sweeps of one city, as ../shared/DOC.md promises them. */
public final class SootMaps {
    public static final int NONE = -1, UNKNOWN = -1000000001, OUTSIDE = -1000000002, NOT = -1000000003, FULL = -1000000004;

    private static final int LETTER_TOP = 255;
    private static final int TEXT_ROOM = 240;
    private static final int HOUSE_ROOM = 9;
    private static final int SWEEP_ROOM = 5;
    private static final int KIND_TOP = 7;
    private static final int LAYER_ROOM = 8;
    private static final int KIND_BITS = 3;
    private static final int FLUE_MASK = (1 << LAYER_ROOM * KIND_BITS) - 1;
    private static final int NO_HOUSE_WORD = 9;
    private static final int DEED_ROOM = 30;
    private static final int IMAGE_ROOM = 2;
    private static final int SIGHT_ROOM = 6;
    private static final int BOOK_ROOM = 20;
    private static final int MONTHS_AT_ONCE = 30;
    private static final int MONTHS_TOP = 9000;
    private static final int ROW_MONTHS = 3;
    private static final int PURSE_ZERO = 100000;
    private static final int BILLION = 1000000000;
    private static final int SEED_TOP = 2147483647;

    private final Text text = new Text();
    private final Plan plan = new Plan();
    private final Streets now = new Streets();
    private final Past past = new Past();
    private final Images images = new Images();
    private final Sights sights = new Sights();
    private final Book book = new Book();
    private final Rows rows = new Rows();
    private final Bargain bargain = new Bargain();
    private int dice;

    public SootMaps() {
    }

    // ---- the city

    public int feed(int letter) {
        if (letter < 0 || letter > LETTER_TOP) {
            return OUTSIDE;
        }
        return text.add((char) letter);
    }

    public int city() {
        text.readAll();
        if (text.fault != 0) {
            return -10 - text.fault;
        }
        plan.copyFrom(text.draft);
        now.begin(plan);
        past.forget();
        images.forget();
        sights.count = 0;
        book.count = 0;
        return plan.houses;
    }

    public int fault() {
        return text.faultAt;
    }

    public int told(int what) {
        switch (what) {
            case 0: return plan.isTold ? 1 : 0;
            case 1: return plan.wind;
            case 2: return plan.wash;
            case 3: return plan.houses;
            case 4: return plan.sweeps;
            case 5: return text.length;
            case 6: return now.months;
            case 7: return now.layersOfAll();
            case 8: return now.paid;
            case 9: return sights.count;
            case 10: return book.count;
            case 11: return past.count;
            default: return OUTSIDE;
        }
    }

    public int house(int h, int what) {
        if (!isHouse(h)) {
            return UNKNOWN;
        }
        switch (what) {
            case 0: return now.burns[h];
            case 1: return now.into[h];
            case 2: return Soot.layers(now.flue[h]);
            case 3: return Soot.newest(now.flue[h]);
            default: return OUTSIDE;
        }
    }

    public int layer(int h, int l) {
        if (!isHouse(h)) {
            return UNKNOWN;
        }
        if (l < 0 || l >= LAYER_ROOM) {
            return OUTSIDE;
        }
        return Soot.fromOldest(now.flue[h], l);
    }

    public int sweep(int s, int what) {
        if (!isSweep(s)) {
            return UNKNOWN;
        }
        switch (what) {
            case 0: return now.knows[s];
            case 1: return plan.price[s];
            case 2: return now.purse[s] + PURSE_ZERO;
            default: return OUTSIDE;
        }
    }

    // ---- deeds

    public int month(int n) {
        int refusal = refusalOfMonths(n);
        if (refusal != 0) {
            return refusal;
        }
        for (int m = 0; m < n; m++) {
            past.remember(now);
            now.passMonth(plan);
        }
        return now.layersOfAll();
    }

    public int fire(int h, int kind) {
        if (!isHouse(h)) {
            return UNKNOWN;
        }
        if (kind < 0 || kind > KIND_TOP) {
            return OUTSIDE;
        }
        past.remember(now);
        int before = now.burns[h];
        now.burns[h] = kind;
        return before;
    }

    public int rain() {
        if (!plan.isTold) {
            return NOT;
        }
        past.remember(now);
        return now.washOff(plan.wash);
    }

    public int swept(int h) {
        if (!isHouse(h)) {
            return UNKNOWN;
        }
        past.remember(now);
        int gone = Soot.layers(now.flue[h]);
        now.flue[h] = 0;
        return gone;
    }

    public int run(int h, int f) {
        if (!isHouse(h) || f < NONE || f >= h) {
            return UNKNOWN;
        }
        past.remember(now);
        int before = now.into[h];
        now.into[h] = f;
        return before;
    }

    public int swap(int s, int a, int z, int b) {
        if (!areTwoSweeps(s, z) || !isHouse(a) || !isHouse(b) || a == b) {
            return UNKNOWN;
        }
        if (!now.canGive(s, z, a) || !now.canGive(z, s, b)) {
            return NOT;
        }
        past.remember(now);
        now.learn(z, a);
        now.learn(s, b);
        return now.knows[s];
    }

    public int pay(int s, int z, int h) {
        if (!areTwoSweeps(s, z) || !isHouse(h)) {
            return UNKNOWN;
        }
        if (!now.canGive(z, s, h)) {
            return NOT;
        }
        past.remember(now);
        int price = plan.price[z];
        now.learn(s, h);
        now.purse[s] -= price;
        now.purse[z] += price;
        now.paid += price;
        return price;
    }

    public int drift(int n) {
        int refusal = refusalOfMonths(n);
        if (refusal != 0) {
            return refusal;
        }
        for (int m = 0; m < n; m++) {
            past.remember(now);
            passDrawnMonth();
        }
        return now.layersOfAll();
    }

    public int undo(int n) {
        if (n < 1 || n > DEED_ROOM) {
            return OUTSIDE;
        }
        if (n > past.count) {
            return NOT;
        }
        past.bringBack(n, now);
        return now.months;
    }

    // ---- tried

    public int burned(int h, int n, int i) {
        if (!isHouse(h)) {
            return UNKNOWN;
        }
        if (n < 1 || n > ROW_MONTHS) {
            return OUTSIDE;
        }
        rows.lookInto(h, now, plan);
        return i == NONE ? rows.howMany(n) : rows.fitting(n, i);
    }

    public int sure(int h, int n, int m) {
        if (!isHouse(h)) {
            return UNKNOWN;
        }
        if (n < 1 || n > ROW_MONTHS || m < 1 || m > n) {
            return OUTSIDE;
        }
        rows.lookInto(h, now, plan);
        return rows.sameInAll(n, m);
    }

    public int flues(int h, int what) {
        if (!isHouse(h)) {
            return UNKNOWN;
        }
        switch (what) {
            case 0: return now.burns[h] == 0 ? 0 : now.reach(h, plan);
            case 1: return now.heatOf(h, plan.houses);
            case 2: return now.likeOf(h, plan.houses);
            default: return OUTSIDE;
        }
    }

    public int trade(int s, int set, int h) {
        if (!isSweep(s) || set < 0 || set >= 1 << plan.houses || h != NONE && !isHouse(h)) {
            return UNKNOWN;
        }
        if (!bargain.settle(s, set, now, plan)) {
            return NONE;
        }
        return h == NONE ? bargain.leastPaid() : bargain.giverOf(h, plan);
    }

    /**
     * Two sweeps of whom neither can give the other anything new, or only one can, have maps of
     * which the one's hold the other's. If that is so of all, giving goes from more maps to fewer
     * alone and never comes round: so where there is a ring at all, there is one of two.
     */
    public int ring(int i) {
        for (int a = 0; a < plan.sweeps; a++) {
            for (int b = a + 1; b < plan.sweeps; b++) {
                if (now.hasNewFor(a, b) && now.hasNewFor(b, a)) {
                    return ofPair(a, b, i);
                }
            }
        }
        return NONE;
    }

    public int brushes(int kind, int what) {
        if (kind < 1 || kind > KIND_TOP) {
            return OUTSIDE;
        }
        switch (what) {
            case 0: return now.fluesWith(kind, plan.houses);
            case 1: return mostFeared(kind);
            default: return OUTSIDE;
        }
    }

    public int wet(int n, int q) {
        if (n < 0 || n > LAYER_ROOM || q < 0 || q > 100) {
            return OUTSIDE;
        }
        long odds = BILLION;
        for (int above = 0; above < n; above++) {
            int wrongly = Math.min(100, q + 2 * above);
            odds = odds * (100 - wrongly) / 100;
        }
        return (int) odds;
    }

    // ---- what was seen

    public int see(int h, int kind, boolean is) {
        if (!isHouse(h)) {
            return UNKNOWN;
        }
        if (kind < 1 || kind > KIND_TOP) {
            return OUTSIDE;
        }
        return sights.add(h, kind, is);
    }

    public int next(int kind, int what) {
        if (kind < 1 || kind > KIND_TOP) {
            return OUTSIDE;
        }
        switch (what) {
            case 0: return suspects(kind);
            case 1: return partingFlue(suspects(kind));
            default: return OUTSIDE;
        }
    }

    public int write(int h, int kind) {
        if (!isHouse(h)) {
            return UNKNOWN;
        }
        if (kind < 0 || kind > KIND_TOP) {
            return OUTSIDE;
        }
        return book.add(h, kind);
    }

    public int judge() {
        return book.firstWrong(now);
    }

    public int tear() {
        int both = sights.count + book.count;
        sights.count = 0;
        book.count = 0;
        return both;
    }

    // ---- images

    public int seed(int v) {
        if (v < 0) {
            return OUTSIDE;
        }
        int before = dice;
        dice = v;
        return before;
    }

    public int keep(int i) {
        if (i < 0 || i >= IMAGE_ROOM) {
            return UNKNOWN;
        }
        images.put(i, now, dice);
        past.forget();
        return 1;
    }

    public int goBack(int i) {
        if (i < 0 || i >= IMAGE_ROOM) {
            return UNKNOWN;
        }
        if (!images.isKept(i)) {
            return NOT;
        }
        dice = images.bringBack(i, now);
        past.forget();
        return 1;
    }

    // ---- what the calls share

    private boolean isHouse(int h) {
        return h >= 0 && h < plan.houses;
    }

    private boolean isSweep(int s) {
        return s >= 0 && s < plan.sweeps;
    }

    private boolean areTwoSweeps(int s, int z) {
        return isSweep(s) && isSweep(z) && s != z;
    }

    private int refusalOfMonths(int n) {
        if (n < 1 || n > MONTHS_AT_ONCE) {
            return OUTSIDE;
        }
        if (!plan.isTold) {
            return NOT;
        }
        return now.months > MONTHS_TOP ? FULL : 0;
    }

    private int draw(int n) {
        // wrap-around by 2 to the 32 leaves what is left over by 2 to the 31 as it is
        dice = dice * 1103515245 + 12345 & SEED_TOP;
        return n < 1 ? 0 : dice / 65536 % n;
    }

    private void passDrawnMonth() {
        if (plan.houses > 0) {
            int h = draw(plan.houses);
            int kind = draw(KIND_TOP + 1);
            if (isHouse(h)) {
                now.burns[h] = kind;
            }
        }
        boolean isWet = draw(4) == 0;
        now.passMonth(plan);
        if (isWet) {
            now.washOff(plan.wash);
        }
    }

    private static int ofPair(int a, int b, int i) {
        switch (i) {
            case NONE: return 2;
            case 0: return a;
            case 1: return b;
            default: return NONE;
        }
    }

    private int mostFeared(int kind) {
        int feared = NONE;
        int most = 0;
        for (int h = 0; h < plan.houses; h++) {
            int reached = now.burns[h] == kind ? Integer.bitCount(now.reach(h, plan)) : 0;
            if (reached > most) {
                most = reached;
                feared = h;
            }
        }
        return feared;
    }

    private int suspects(int kind) {
        int who = 0;
        for (int h = 0; h < plan.houses; h++) {
            if (sights.allow(kind, now.reach(h, plan))) {
                who |= 1 << h;
            }
        }
        return who;
    }

    private int partingFlue(int who) {
        int all = Integer.bitCount(who);
        int best = NONE;
        // a flue that leaves all in one part parts nobody, so only less than all is better than none
        int least = all;
        for (int f = 0; f < plan.houses; f++) {
            int in = howManyReach(f, who);
            int greater = Math.max(in, all - in);
            if (greater < least) {
                least = greater;
                best = f;
            }
        }
        return best;
    }

    private int howManyReach(int f, int who) {
        int in = 0;
        for (int h = 0; h < plan.houses; h++) {
            if ((who >> h & 1) == 1) {
                in += now.reach(h, plan) >> f & 1;
            }
        }
        return in;
    }

    /**
     * What lies in one flue is one number: its layers are figures of eight, the newest the lowest.
     * No kind is 0, so the number tells how many there are, and two flues are alike as their numbers are.
     */
    private static final class Soot {
        static int laid(int flue, int kind) {
            return (flue << KIND_BITS | kind) & FLUE_MASK;
        }

        /** The layers of more, of which there are so many, on those of flue. */
        static int heaped(int flue, int more, int layers) {
            if (layers >= LAYER_ROOM) {
                return more;
            }
            return (flue << KIND_BITS * layers | more) & FLUE_MASK;
        }

        static int washed(int flue, int layers) {
            return layers >= LAYER_ROOM ? 0 : flue >> KIND_BITS * layers;
        }

        static int layers(int flue) {
            int count = 0;
            for (int l = 0; l < LAYER_ROOM; l++) {
                if (fromNewest(flue, l) != 0) {
                    count++;
                }
            }
            return count;
        }

        static int newest(int flue) {
            return fromNewest(flue, 0);
        }

        static int fromOldest(int flue, int l) {
            int above = layers(flue) - 1 - l;
            return above < 0 ? 0 : fromNewest(flue, above);
        }

        static int fromNewest(int flue, int l) {
            return flue >> KIND_BITS * l & KIND_TOP;
        }

        static boolean holds(int flue, int kind) {
            for (int l = 0; l < LAYER_ROOM; l++) {
                if (fromNewest(flue, l) == kind) {
                    return true;
                }
            }
            return false;
        }
    }

    /** What the text tells; no deed changes it. */
    private static final class Plan {
        boolean isTold;
        int wind;
        int wash;
        int houses;
        int sweeps;
        final int[] into = new int[HOUSE_ROOM];
        final int[] burns = new int[HOUSE_ROOM];
        final int[] knows = new int[SWEEP_ROOM];
        final int[] price = new int[SWEEP_ROOM];

        void clear() {
            isTold = false;
            wind = 0;
            wash = 0;
            houses = 0;
            sweeps = 0;
        }

        void copyFrom(Plan other) {
            isTold = other.isTold;
            wind = other.wind;
            wash = other.wash;
            houses = other.houses;
            sweeps = other.sweeps;
            System.arraycopy(other.into, 0, into, 0, HOUSE_ROOM);
            System.arraycopy(other.burns, 0, burns, 0, HOUSE_ROOM);
            System.arraycopy(other.knows, 0, knows, 0, SWEEP_ROOM);
            System.arraycopy(other.price, 0, price, 0, SWEEP_ROOM);
        }

        void tellCity(int w, int r) {
            isTold = true;
            wind = w;
            wash = r;
        }

        void tellHouse(int f, int kind) {
            if (houses < HOUSE_ROOM) {
                into[houses] = f == NO_HOUSE_WORD ? NONE : f;
                burns[houses] = kind;
                houses++;
            }
        }

        void tellSweep(int set, int v) {
            if (sweeps < SWEEP_ROOM) {
                knows[sweeps] = set;
                price[sweeps] = v;
                sweeps++;
            }
        }

        /** The house to which the wind blows from h. */
        int neighbour(int h) {
            int to = wind == 1 ? h + 1 : wind == 2 ? h - 1 : NONE;
            return to >= 0 && to < houses ? to : NONE;
        }
    }

    /** The text, and what is read of it up to its first fault. */
    private static final class Text {
        private final char[] letters = new char[TEXT_ROOM];
        private final Plan draft = new Plan();
        private int length;
        private int at;
        private int fault;
        private int faultAt = NONE;

        int add(char letter) {
            if (length < 0 || length >= TEXT_ROOM) {
                return FULL;
            }
            letters[length] = letter;
            length++;
            return length;
        }

        /** Reads the text into the draft; the text is empty then. */
        void readAll() {
            at = 0;
            fault = 0;
            faultAt = NONE;
            draft.clear();
            for (int clause = 0; clause < TEXT_ROOM && fault == 0; clause++) {
                skipBlanks();
                if (at >= length) {
                    break;
                }
                readClause();
            }
            length = 0;
        }

        /** The letter that is read now; 0, which is no word, at the end. */
        private char letter() {
            return at >= 0 && at < length && at < TEXT_ROOM ? letters[at] : 0;
        }

        private void skipBlanks() {
            for (int i = 0; i < TEXT_ROOM && letter() == ' '; i++) {
                at++;
            }
        }

        private void fail(int number, int where) {
            if (fault == 0) {
                fault = number;
                faultAt = where;
            }
        }

        private void readClause() {
            char word = letter();
            if (!mayBegin(word)) {
                fail(1, at);
            } else if (isOneTooMany(word)) {
                fail(3, at);
            } else {
                at++;
                readNumbersOf(word);
            }
        }

        private boolean mayBegin(char word) {
            return word == 'c' || draft.isTold && (word == 'h' || word == 's');
        }

        private boolean isOneTooMany(char word) {
            return word == 'c' && draft.isTold
                || word == 'h' && draft.houses >= HOUSE_ROOM
                || word == 's' && draft.sweeps >= SWEEP_ROOM;
        }

        private void readNumbersOf(char word) {
            skipBlanks();
            int first = readFirst(word);
            skipBlanks();
            int second = fault != 0 ? 0 : readNumber(word == 'c' ? 4 : word == 'h' ? KIND_TOP : 99);
            if (fault == 0) {
                readEnd();
            }
            if (fault != 0) {
                return;
            }
            if (word == 'c') {
                draft.tellCity(first, second);
            } else if (word == 'h') {
                draft.tellHouse(first, second);
            } else {
                draft.tellSweep(first, second);
            }
        }

        /** A clause's first number; that of a house or sweep is bound by the houses told ahead of it. */
        private int readFirst(char word) {
            int start = at;
            int number = readNumber(word == 'c' ? 2 : word == 'h' ? NO_HOUSE_WORD : (1 << HOUSE_ROOM) - 1);
            boolean isTold = word == 'h' ? number == NO_HOUSE_WORD || number < draft.houses
                : word != 's' || number < 1 << draft.houses;
            if (!isTold) {
                fail(2, start);
            }
            return number;
        }

        private int readNumber(int top) {
            int start = at;
            int number = 0;
            int figures = 0;
            for (int i = 0; i < TEXT_ROOM && isFigure(letter()); i++) {
                figures++;
                if (figures <= 3) {
                    number = number * 10 + (letter() - '0');
                }
                at++;
            }
            if (figures == 0) {
                fail(1, start);
            } else if (figures > 3 || number > top) {
                fail(2, start);
            }
            return number;
        }

        private static boolean isFigure(char letter) {
            return letter >= '0' && letter <= '9';
        }

        private void readEnd() {
            skipBlanks();
            if (letter() == ';') {
                at++;
            } else {
                fail(1, at);
            }
        }
    }

    /** What deeds change: flues, fires, where flues run, who knows what, months, what was paid. */
    private static final class Streets {
        final int[] flue = new int[HOUSE_ROOM];
        final int[] burns = new int[HOUSE_ROOM];
        final int[] into = new int[HOUSE_ROOM];
        final int[] knows = new int[SWEEP_ROOM];
        final int[] purse = new int[SWEEP_ROOM];
        int months;
        int paid;

        void copyFrom(Streets other) {
            System.arraycopy(other.flue, 0, flue, 0, HOUSE_ROOM);
            System.arraycopy(other.burns, 0, burns, 0, HOUSE_ROOM);
            System.arraycopy(other.into, 0, into, 0, HOUSE_ROOM);
            System.arraycopy(other.knows, 0, knows, 0, SWEEP_ROOM);
            System.arraycopy(other.purse, 0, purse, 0, SWEEP_ROOM);
            months = other.months;
            paid = other.paid;
        }

        void begin(Plan plan) {
            System.arraycopy(plan.burns, 0, burns, 0, HOUSE_ROOM);
            System.arraycopy(plan.into, 0, into, 0, HOUSE_ROOM);
            System.arraycopy(plan.knows, 0, knows, 0, SWEEP_ROOM);
            for (int h = 0; h < HOUSE_ROOM; h++) {
                flue[h] = 0;
            }
            for (int s = 0; s < SWEEP_ROOM; s++) {
                purse[s] = 0;
            }
            months = 0;
            paid = 0;
        }

        int layersOfAll() {
            int all = 0;
            for (int h = 0; h < HOUSE_ROOM; h++) {
                all += Soot.layers(flue[h]);
            }
            return all;
        }

        void passMonth(Plan plan) {
            for (int h = 0; h < plan.houses; h++) {
                if (burns[h] != 0) {
                    burnIn(h, plan);
                }
            }
            months++;
        }

        private void burnIn(int h, Plan plan) {
            int f = h;
            for (int step = 0; step < HOUSE_ROOM && f >= 0 && f < HOUSE_ROOM; step++) {
                flue[f] = Soot.laid(flue[f], burns[h]);
                f = into[f];
            }
            int blown = plan.neighbour(h);
            if (blown >= 0) {
                flue[blown] = Soot.laid(flue[blown], burns[h]);
            }
        }

        int washOff(int layers) {
            int before = layersOfAll();
            for (int h = 0; h < HOUSE_ROOM; h++) {
                flue[h] = Soot.washed(flue[h], layers);
            }
            return before - layersOfAll();
        }

        boolean canGive(int giver, int taker, int h) {
            return (knows[giver] >> h & 1) == 1 && (knows[taker] >> h & 1) == 0;
        }

        boolean hasNewFor(int giver, int taker) {
            return (knows[giver] & ~knows[taker]) != 0;
        }

        void learn(int s, int h) {
            knows[s] |= 1 << h;
        }

        /** Its own flue and those into which it runs, straight or by others. */
        int down(int h) {
            int set = 0;
            int f = h;
            for (int step = 0; step < HOUSE_ROOM && f >= 0 && f < HOUSE_ROOM; step++) {
                set |= 1 << f;
                f = into[f];
            }
            return set;
        }

        /** Where the soot of a house lies, if it burns something. */
        int reach(int h, Plan plan) {
            int blown = plan.neighbour(h);
            return blown < 0 ? down(h) : down(h) | 1 << blown;
        }

        int heatOf(int h, int houses) {
            int set = 0;
            for (int g = 0; g < houses; g++) {
                if (g != h && (down(g) >> h & 1) == 1) {
                    set |= 1 << g;
                }
            }
            return set;
        }

        int likeOf(int h, int houses) {
            int set = 0;
            for (int g = 0; g < houses; g++) {
                if (flue[g] == flue[h]) {
                    set |= 1 << g;
                }
            }
            return set;
        }

        int fluesWith(int kind, int houses) {
            int count = 0;
            for (int h = 0; h < houses; h++) {
                if (Soot.holds(flue[h], kind)) {
                    count++;
                }
            }
            return count;
        }
    }

    /** What was so ahead of each of the latest deeds, in a round of rows that are used again. */
    private static final class Past {
        private final Streets[] ahead = new Streets[DEED_ROOM];
        private int newest;
        private int count;

        Past() {
            for (int d = 0; d < DEED_ROOM; d++) {
                ahead[d] = new Streets();
            }
        }

        void forget() {
            count = 0;
        }

        void remember(Streets now) {
            newest = Math.floorMod(newest + 1, DEED_ROOM);
            ahead[newest].copyFrom(now);
            count = Math.min(count + 1, DEED_ROOM);
        }

        void bringBack(int n, Streets now) {
            now.copyFrom(ahead[Math.floorMod(newest - n + 1, DEED_ROOM)]);
            newest = Math.floorMod(newest - n, DEED_ROOM);
            count -= n;
        }
    }

    private static final class Images {
        private final Streets[] kept = new Streets[IMAGE_ROOM];
        private final int[] dice = new int[IMAGE_ROOM];
        private final boolean[] isKept = new boolean[IMAGE_ROOM];

        Images() {
            for (int i = 0; i < IMAGE_ROOM; i++) {
                kept[i] = new Streets();
            }
        }

        void forget() {
            for (int i = 0; i < IMAGE_ROOM; i++) {
                isKept[i] = false;
            }
        }

        boolean isKept(int i) {
            return isKept[i];
        }

        void put(int i, Streets now, int seed) {
            kept[i].copyFrom(now);
            dice[i] = seed;
            isKept[i] = true;
        }

        /** The seed of the image. */
        int bringBack(int i, Streets now) {
            now.copyFrom(kept[i]);
            return dice[i];
        }
    }

    private static final class Sights {
        private final int[] flue = new int[SIGHT_ROOM];
        private final int[] kind = new int[SIGHT_ROOM];
        private final boolean[] was = new boolean[SIGHT_ROOM];
        private int count;

        int add(int h, int k, boolean is) {
            if (count < 0 || count >= SIGHT_ROOM) {
                return FULL;
            }
            flue[count] = h;
            kind[count] = k;
            was[count] = is;
            count++;
            return count;
        }

        /** Whether soot of that kind in these flues, and in no other, fits all that was seen of the kind. */
        boolean allow(int k, int flues) {
            for (int i = 0; i < count && i < SIGHT_ROOM; i++) {
                if (kind[i] == k && (flues >> flue[i] & 1) == 1 != was[i]) {
                    return false;
                }
            }
            return true;
        }
    }

    private static final class Book {
        private final int[] flue = new int[BOOK_ROOM];
        private final int[] kind = new int[BOOK_ROOM];
        private int count;

        int add(int h, int k) {
            if (count < 0 || count >= BOOK_ROOM) {
                return FULL;
            }
            flue[count] = h;
            kind[count] = k;
            count++;
            return count;
        }

        int firstWrong(Streets now) {
            for (int i = 0; i < count && i < BOOK_ROOM; i++) {
                if (Soot.newest(now.flue[flue[i]]) != kind[i]) {
                    return i;
                }
            }
            return NONE;
        }
    }

    /**
     * Rows of kinds that a house could have burned. What a month lays in its flue hangs on the kind that
     * it burns in that month alone, so there are eight heaps, of which a row lays one a month.
     */
    private static final class Rows {
        private final int[] heap = new int[KIND_TOP + 1];
        private final int[] heapLayers = new int[KIND_TOP + 1];
        private int sought;

        void lookInto(int h, Streets now, Plan plan) {
            sought = now.flue[h];
            for (int kind = 0; kind <= KIND_TOP; kind++) {
                heap[kind] = 0;
                heapLayers[kind] = 0;
            }
            for (int g = 0; g < plan.houses; g++) {
                int times = (now.down(g) >> h & 1) + (plan.neighbour(g) == h ? 1 : 0);
                for (int kind = 0; kind <= KIND_TOP && times > 0; kind++) {
                    addToHeap(kind, g == h ? kind : now.burns[g], times);
                }
            }
        }

        private void addToHeap(int kind, int laid, int times) {
            for (int t = 0; t < times && laid != 0; t++) {
                heap[kind] = Soot.laid(heap[kind], laid);
                heapLayers[kind]++;
            }
        }

        private static int rowsOf(int n) {
            return 1 << KIND_BITS * n;
        }

        private static int kindIn(int row, int n, int m) {
            return row >> KIND_BITS * (n - m) & KIND_TOP;
        }

        private boolean fits(int row, int n) {
            int flue = 0;
            for (int m = 1; m <= n; m++) {
                int kind = kindIn(row, n, m);
                flue = Soot.heaped(flue, heap[kind], heapLayers[kind]);
            }
            return flue == sought;
        }

        int howMany(int n) {
            int count = 0;
            for (int row = 0; row < rowsOf(n); row++) {
                if (fits(row, n)) {
                    count++;
                }
            }
            return count;
        }

        int fitting(int n, int i) {
            int left = i;
            for (int row = 0; row < rowsOf(n) && left >= 0; row++) {
                if (fits(row, n)) {
                    if (left == 0) {
                        return row;
                    }
                    left--;
                }
            }
            return NONE;
        }

        int sameInAll(int n, int m) {
            int same = NONE;
            for (int row = 0; row < rowsOf(n); row++) {
                if (fits(row, n)) {
                    int kind = kindIn(row, n, m);
                    if (same != NONE && same != kind) {
                        return NONE;
                    }
                    same = kind;
                }
            }
            return same;
        }
    }

    /**
     * The cheapest trade. It is counted from the last needed map back: for each number of maps that are
     * settled and each way in which they used up what the others take in swap (a tally), the least that
     * the rest costs.
     */
    private static final class Bargain {
        /**
         * He knows k of nine maps and needs 9 - k at most, so nobody swaps more than four with him; there
         * are four others; and where somebody swaps four, at most five are needed.
         */
        private static final int TALLY_ROOM = 5 * 5 * 5 * 5;
        private static final int COST_ROOM = TALLY_ROOM * 6;
        /** Nine maps at 99 each cost less. */
        private static final int MORE_THAN_ALL = 1000;

        private final int[] needed = new int[HOUSE_ROOM];
        private final int[] givers = new int[HOUSE_ROOM];
        private final int[] swaps = new int[SWEEP_ROOM];
        private final int[] stride = new int[SWEEP_ROOM];
        private final int[] spent = new int[TALLY_ROOM];
        private final int[] cost = new int[COST_ROOM];
        private int needs;
        private int tallies;

        /** Whether it can be had at all. */
        boolean settle(int s, int set, Streets now, Plan plan) {
            int missing = set & ~now.knows[s];
            listNeeds(s, missing, now, plan);
            for (int i = 0; i < needs; i++) {
                if (givers[i] == 0) {
                    return false;
                }
            }
            listTallies(s, missing, now, plan);
            if ((needs + 1) * tallies > COST_ROOM) {
                return false;
            }
            for (int tally = 0; tally < tallies; tally++) {
                cost[needs * tallies + tally] = 0;
            }
            for (int i = needs - 1; i >= 0; i--) {
                countCosts(i, plan);
            }
            return true;
        }

        int leastPaid() {
            return cost[0];
        }

        int giverOf(int h, Plan plan) {
            int tally = 0;
            for (int i = 0; i < needs; i++) {
                int z = cheapestGiver(i, tally, plan);
                if (needed[i] == h) {
                    return z;
                }
                tally = isFree(z, tally) ? tally + stride[z] : tally;
            }
            return NONE;
        }

        private void listNeeds(int s, int missing, Streets now, Plan plan) {
            needs = 0;
            for (int h = 0; h < plan.houses; h++) {
                if ((missing >> h & 1) == 1) {
                    needed[needs] = h;
                    givers[needs] = othersWhoKnow(h, s, now, plan);
                    needs++;
                }
            }
        }

        private static int othersWhoKnow(int h, int s, Streets now, Plan plan) {
            int set = 0;
            for (int z = 0; z < plan.sweeps; z++) {
                if (z != s && now.canGive(z, s, h)) {
                    set |= 1 << z;
                }
            }
            return set;
        }

        private void listTallies(int s, int missing, Streets now, Plan plan) {
            tallies = 1;
            spent[0] = 0;
            for (int z = 0; z < plan.sweeps; z++) {
                int offered = Integer.bitCount(now.knows[s] & ~now.knows[z]);
                int wanted = Integer.bitCount(missing & now.knows[z]);
                swaps[z] = Math.min(offered, wanted);
                stride[z] = tallies;
                tallies = Math.min(tallies * (swaps[z] + 1), TALLY_ROOM);
                for (int tally = stride[z]; tally < tallies; tally++) {
                    spent[tally] = spent[tally - stride[z]] + 1;
                }
            }
        }

        /** What the i-th needed map and those behind it cost; none ahead of it spent more than one swap. */
        private void countCosts(int i, Plan plan) {
            for (int tally = 0; tally < tallies; tally++) {
                if (spent[tally] <= i) {
                    cost[i * tallies + tally] = costBy(cheapestGiver(i, tally, plan), i, tally, plan);
                }
            }
        }

        private boolean isFree(int z, int tally) {
            int period = swaps[z] + 1;
            return stride[z] > 0 && period > 0 && tally / stride[z] % period < swaps[z];
        }

        private int costBy(int z, int i, int tally, Plan plan) {
            int behind = (i + 1) * tallies + tally;
            return isFree(z, tally) ? cost[behind + stride[z]] : plan.price[z] + cost[behind];
        }

        private int cheapestGiver(int i, int tally, Plan plan) {
            int best = 0;
            int least = MORE_THAN_ALL;
            for (int z = 0; z < plan.sweeps; z++) {
                if ((givers[i] >> z & 1) == 1) {
                    int all = costBy(z, i, tally, plan);
                    if (all < least) {
                        least = all;
                        best = z;
                    }
                }
            }
            return best;
        }
    }
}
