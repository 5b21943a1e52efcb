/** Medals that have the wounds, the men who wear them, and what comes of it day by day. */
public final class WoundMedals {
    public static final int BAD = -1, NOT = -2, FULL = -3, NONE = -4, NULL = -11, CAST = -12, INDEX = -13, SIZE = -14;

    private static final int MOST_MEN = 5;
    private static final int MOST_MEDALS = 6;
    private static final int SETS_OF_MEDALS = 64;
    private static final int MOST_BUILD = 60;
    private static final int MOST_WEIGHT = 20;

    private static final int BRONZE = 0;
    private static final int BARRED = 1;
    private static final int FOREIGN = 2;
    private static final int PLATE = 3;
    private static final int MINIATURE = 4;

    private static final int LAST_DAY = 9999;
    private static final int MOST_DAYS = 40;
    private static final int FARTHEST = 60;
    private static final int MOST_NEED = 200;
    private static final int MOST_FELT = 8;

    private static final int MOST_UNDONE = 8;
    private static final int MOST_LETTERS = 90;
    private static final int FIRST_FAULT = -20;

    private static final int SHEETS = 4;
    private static final int MOST_ITEMS = 24;
    private static final int BYTES = 0;
    private static final int SHORTS = 1;
    private static final int INTS = 2;
    private static final int LONGS = 3;

    private final Muster now = new Muster();
    private final Past past = new Past();
    private final Muster imageOfNow = new Muster();
    private final Past imageOfPast = new Past();
    private boolean hasImage = false;
    /** What is supposed for the length of one call: a STATE being read, a medal that is another. */
    private final Muster trial = new Muster();
    private final Tape tape = new Tape();
    private final Hanging hanging = new Hanging(now);
    private final Row[] rows = new Row[SHEETS];

    public WoundMedals() {
        for (int i = 0; i < SHEETS; i++) {
            rows[i] = new Row();
        }
    }

    // ---- 1 men, medals

    public int man(int build) {
        if (build < 1 || build > MOST_BUILD) {
            return BAD;
        }
        if (now.men >= MOST_MEN) {
            return FULL;
        }
        past.forget();
        return now.addMan(build, build);
    }

    public int medal(int kind, int weight, int wound) {
        if (kind < BRONZE || kind > MINIATURE || weight < 1 || weight > MOST_WEIGHT || !now.hasMan(wound)) {
            return BAD;
        }
        if (now.medals >= MOST_MEDALS) {
            return FULL;
        }
        past.forget();
        return now.addMedal(kind, weight, wound, NONE);
    }

    public int of(int man, int what) {
        if (!now.hasMan(man)) {
            return BAD;
        }
        switch (what) {
            case 0: return now.build[man];
            case 1: return now.strength[man];
            case 2: return now.loadOn(man, now.day);
            case 3: return now.isBent(man) ? 1 : 0;
            case 4: return now.wornBy(man);
            case 5: return now.woundsOf(man);
            default: return BAD;
        }
    }

    public int at(int medal, int what) {
        if (!now.hasMedal(medal)) {
            return BAD;
        }
        switch (what) {
            case 0: return now.kind[medal];
            case 1: return now.weight[medal];
            case 2: return now.wound[medal];
            case 3: return now.wearer[medal];
            case 4: return now.bearsNow(medal);
            default: return BAD;
        }
    }

    public int type(int letter) {
        if (letter < 32 || letter > 126) {
            return BAD;
        }
        return tape.add((char) letter) ? tape.length : FULL;
    }

    public int state() {
        trial.clear();
        trial.draw = now.draw;
        boolean stands = tape.readState(trial);
        int faultAt = tape.place;
        tape.length = 0;
        if (!stands) {
            return FIRST_FAULT - faultAt;
        }
        now.take(trial);
        past.forget();
        return now.men;
    }

    public int count(int what) {
        switch (what) {
            case 0: return now.men;
            case 1: return now.medals;
            case 2: return now.day;
            case 3: return now.allBent();
            case 4: return now.wornBy(NONE);
            case 5: return now.allStrength();
            case 6: return now.allLoads();
            case 7: return past.known;
            default: return BAD;
        }
    }

    // ---- what is done

    public int days(int n) {
        return passDays(n, false);
    }

    public int hang(int medal, int man) {
        if (!now.hasMedal(medal) || (man != NONE && !now.hasMan(man))) {
            return BAD;
        }
        int wore = now.wearer[medal];
        if (wore == man) {
            return NOT;
        }
        past.keep(now);
        now.wearer[medal] = man;
        return wore;
    }

    public int polish(int medal, int n) {
        if (!now.hasMedal(medal) || n < 1 || n > MOST_WEIGHT) {
            return BAD;
        }
        if (now.weight[medal] >= MOST_WEIGHT) {
            return NOT;
        }
        past.keep(now);
        now.weight[medal] = Math.min(MOST_WEIGHT, now.weight[medal] + n);
        return now.weight[medal];
    }

    public int drift(int n) {
        return passDays(n, true);
    }

    public int undo() {
        return past.giveBack(now) ? past.known : NONE;
    }

    public int seed(int v) {
        if (v < 0) {
            return BAD;
        }
        int was = now.draw;
        now.draw = v;
        return was;
    }

    // ---- 2 foretold

    public int ahead(int man, int n, int what) {
        if (!now.hasMan(man) || n < 0 || n > FARTHEST || what < 0 || what > 1) {
            return BAD;
        }
        return what == 0 ? now.strengthBehind(man, n) : now.loadOn(man, now.day + n);
    }

    public int then(int n) {
        if (n < 0 || n > FARTHEST) {
            return BAD;
        }
        return now.bentBehind(n);
    }

    public int done(int man) {
        if (!now.hasMan(man)) {
            return BAD;
        }
        int strength = now.strength[man];
        for (int k = 0; k <= FARTHEST; k++) {
            if (strength == 0) {
                return k;
            }
            strength = now.strengthAfter(man, strength, now.day + k);
        }
        return NONE;
    }

    public int ever() {
        int bent = 0;
        for (int man = 0; man < now.men; man++) {
            if (now.isBentWithin(man, FARTHEST)) {
                bent |= 1 << man;
            }
        }
        return bent;
    }

    public int even(int k) {
        if (k < -1) {
            return BAD;
        }
        hanging.findEven();
        return k == -1 ? hanging.bestCost : hanging.wouldWear(k);
    }

    public int few(int k) {
        if (k < -2) {
            return BAD;
        }
        hanging.findFew();
        switch (k) {
            case -1: return hanging.bestCost / Hanging.BENT_COST;
            case -2: return hanging.bestCost % Hanging.BENT_COST;
            default: return hanging.wouldWear(k);
        }
    }

    public int off(int n, int what) {
        if (n < 1 || n > MOST_DAYS || what < 0 || what > 1) {
            return BAD;
        }
        int best = NONE;
        int fewest = NONE;
        trial.take(now);
        for (int medal = 0; medal < now.medals; medal++) {
            if (now.wearer[medal] != NONE) {
                trial.wearer[medal] = NONE;
                int bent = Integer.bitCount(trial.bentBehind(n));
                trial.wearer[medal] = now.wearer[medal];
                if (best == NONE || bent < fewest) {
                    best = medal;
                    fewest = bent;
                }
            }
        }
        return what == 0 ? best : fewest;
    }

    public int needs(int man, int n) {
        if (!now.hasMan(man) || n < 1 || n > MOST_DAYS) {
            return BAD;
        }
        int load = now.loadOn(man, now.day);
        int nextLoad = now.loadOn(man, now.day + 1);
        for (int strength = 0; strength <= MOST_NEED; strength++) {
            if (staysUpright(strength, Math.max(now.build[man], strength), load, nextLoad, n)) {
                return strength;
            }
        }
        return NONE;
    }

    public int two(int what) {
        if (what < 0 || what > 1) {
            return BAD;
        }
        int best = NONE;
        int least = NONE;
        for (int i = 0; i < now.medals; i++) {
            for (int j = i + 1; j < now.medals; j++) {
                if (now.wornByTwo(i, j)) {
                    int loads = now.loadsIfChanged(i, j);
                    if (best == NONE || loads < least) {
                        best = 10 * i + j;
                        least = loads;
                    }
                }
            }
        }
        return what == 0 ? best : least;
    }

    public int error(int man, int what) {
        if ((man != -1 && !now.hasMan(man)) || what < 0 || what > 1) {
            return BAD;
        }
        hanging.prepare();
        int above = man == -1 ? hanging.waysWithNobodyBent() : hanging.waysWithBent(man);
        int below = hanging.ways();
        int common = greatestCommonDivisor(below, above);
        if (common == 0) {
            return BAD;
        }
        return what == 0 ? above / common : below / common;
    }

    public int image() {
        imageOfNow.take(now);
        imageOfPast.take(past);
        hasImage = true;
        return 1;
    }

    public int restore() {
        if (!hasImage) {
            return NONE;
        }
        now.take(imageOfNow);
        past.take(imageOfPast);
        return 1;
    }

    // ---- 3 sheets

    public int felt(int man, int medal, int sheet, int lane, int i, int n, int what) {
        if (!now.hasMan(man) || !now.hasMedal(medal) || !isSheet(sheet) || !isLane(lane)
                || n < 1 || n > MOST_FELT || what < 0 || what > 2) {
            return BAD;
        }
        int refused = rows[sheet].refuses(lane, i, n);
        if (refused != 0) {
            return refused;
        }
        int least = what == 1 ? 1 : 0;
        int most = what == 0 ? MINIATURE : what == 1 ? MOST_WEIGHT : now.men - 1;
        int[] supposed = what == 0 ? trial.kind : what == 1 ? trial.weight : trial.wound;
        trial.take(now);
        int found = 0;
        for (int value = least; value <= most; value++) {
            supposed[medal] = value;
            if (trialIsTold(man, rows[sheet], i, n)) {
                found |= 1 << value;
            }
        }
        return found;
    }

    public int film(int man, int n, int sheet, int lane, int i) {
        if (!now.hasMan(man) || n < 1 || n > MOST_ITEMS || !isSheet(sheet) || !isLane(lane)) {
            return BAD;
        }
        Row row = rows[sheet];
        int refused = row.refuses(lane, i, n);
        if (refused != 0) {
            return refused;
        }
        int strength = now.strength[man];
        for (int k = 0; k < n; k++) {
            strength = now.strengthAfter(man, strength, now.day + k);
            row.put(i + k, strength);
        }
        return n;
    }

    public int sheet(int sheet, int lane, int n) {
        if (!isSheet(sheet) || !isLane(lane) || n > MOST_ITEMS) {
            return BAD;
        }
        if (n < 0) {
            return SIZE;
        }
        rows[sheet].begin(lane, n);
        return n;
    }

    public int drop(int sheet) {
        if (!isSheet(sheet)) {
            return BAD;
        }
        Row row = rows[sheet];
        if (!row.isThere) {
            return NULL;
        }
        row.isThere = false;
        return row.length;
    }

    public int item(int sheet, int lane, int i, long v) {
        if (!isSheet(sheet) || !isLane(lane)) {
            return BAD;
        }
        int refused = rows[sheet].refuses(lane, i, 1);
        if (refused != 0) {
            return refused;
        }
        rows[sheet].put(i, v);
        return 1;
    }

    public int copy(int from, int i, int to, int j, int n) {
        if (!isSheet(from) || !isSheet(to)) {
            return BAD;
        }
        Row source = rows[from];
        Row target = rows[to];
        if (!source.isThere || !target.isThere) {
            return NULL;
        }
        if (source.lane != target.lane) {
            return CAST;
        }
        if (!source.reaches(i, n) || !target.reaches(j, n)) {
            return INDEX;
        }
        System.arraycopy(source.items, i, target.items, j, n);
        return n;
    }

    // ---- what the calls share

    private int passDays(int n, boolean drifting) {
        if (n < 1 || n > MOST_DAYS) {
            return BAD;
        }
        if (now.day + n > LAST_DAY) {
            return FULL;
        }
        for (int i = 0; i < n; i++) {
            past.keep(now);
            if (drifting) {
                now.drawAndHang();
            }
            now.passDay();
        }
        return now.allBent();
    }

    private static boolean isSheet(int sheet) {
        return sheet >= 0 && sheet < SHEETS;
    }

    private static boolean isLane(int lane) {
        return lane >= BYTES && lane <= LONGS;
    }

    /** Whether the row tells what the trial's man would have behind each of the next n days. */
    private boolean trialIsTold(int man, Row row, int i, int n) {
        int strength = trial.strength[man];
        for (int k = 0; k < n; k++) {
            strength = trial.strengthAfter(man, strength, trial.day + k);
            if (row.items[i + k] != strength) {
                return false;
            }
        }
        return true;
    }

    /** Loads know only odd days from even ones, so two of them serve for all days. */
    private static boolean staysUpright(int strength, int build, int load, int nextLoad, int n) {
        int left = strength;
        for (int k = 0; k <= n; k++) {
            int due = k % 2 == 0 ? load : nextLoad;
            if (due > left) {
                return false;
            }
            left = strengthNext(left, build, due);
        }
        return true;
    }

    /** What one day makes of a strength. */
    private static int strengthNext(int strength, int build, int load) {
        return load > strength ? Math.max(0, strength - 1) : Math.min(build, strength + 1);
    }

    private static int greatestCommonDivisor(int a, int b) {
        int high = a;
        int low = b;
        // Euclid's steps on numbers up to 15625 are fewer than 30.
        for (int step = 0; step < 100 && low != 0; step++) {
            int rest = high % low;
            high = low;
            low = rest;
        }
        return high;
    }

    /** Men, medals, the day and the draw: all that an image keeps but for what may be undone. */
    private static final class Muster {
        int men = 0;
        final int[] build = new int[MOST_MEN];
        final int[] strength = new int[MOST_MEN];
        int medals = 0;
        final int[] kind = new int[MOST_MEDALS];
        final int[] weight = new int[MOST_MEDALS];
        final int[] wound = new int[MOST_MEDALS];
        final int[] wearer = new int[MOST_MEDALS];
        int day = 0;
        int draw = 1;

        void clear() {
            men = 0;
            medals = 0;
            day = 0;
        }

        void take(Muster other) {
            men = other.men;
            System.arraycopy(other.build, 0, build, 0, MOST_MEN);
            System.arraycopy(other.strength, 0, strength, 0, MOST_MEN);
            medals = other.medals;
            System.arraycopy(other.kind, 0, kind, 0, MOST_MEDALS);
            System.arraycopy(other.weight, 0, weight, 0, MOST_MEDALS);
            System.arraycopy(other.wound, 0, wound, 0, MOST_MEDALS);
            System.arraycopy(other.wearer, 0, wearer, 0, MOST_MEDALS);
            day = other.day;
            draw = other.draw;
        }

        boolean hasMan(int man) {
            return man >= 0 && man < men;
        }

        boolean hasMedal(int medal) {
            return medal >= 0 && medal < medals;
        }

        int addMan(int itsBuild, int itsStrength) {
            if (men >= MOST_MEN) {
                return FULL;
            }
            build[men] = itsBuild;
            strength[men] = itsStrength;
            men++;
            return men - 1;
        }

        int addMedal(int itsKind, int itsWeight, int itsWound, int itsWearer) {
            if (medals >= MOST_MEDALS) {
                return FULL;
            }
            kind[medals] = itsKind;
            weight[medals] = itsWeight;
            wound[medals] = itsWound;
            wearer[medals] = itsWearer;
            medals++;
            return medals - 1;
        }

        /** The set of medals that a man wears; by NONE, of those in drawers. */
        int wornBy(int man) {
            return medalsWith(wearer, man);
        }

        int allWorn() {
            return (1 << medals) - 1 & ~wornBy(NONE);
        }

        int woundsOf(int man) {
            return medalsWith(wound, man);
        }

        private int medalsWith(int[] whose, int man) {
            int set = 0;
            for (int medal = 0; medal < medals; medal++) {
                if (whose[medal] == man) {
                    set |= 1 << medal;
                }
            }
            return set;
        }

        /** What a medal bears on a man who wears so many others on that day. */
        int bears(int medal, int man, int others, int onDay) {
            int bronze = weight[medal];
            int barred = 2 * bronze;
            int foreign = onDay % 2 == 0 ? bronze : bronze + 3;
            int all;
            switch (kind[medal]) {
                case BARRED: all = barred; break;
                case FOREIGN: all = foreign; break;
                case PLATE: all = barred + others; break;
                case MINIATURE: all = foreign / 2; break;
                default: all = bronze; break;
            }
            return wound[medal] == man ? all / 2 : all;
        }

        int bearsNow(int medal) {
            int man = wearer[medal];
            if (man == NONE) {
                return 0;
            }
            return bears(medal, man, Integer.bitCount(wornBy(man)) - 1, day);
        }

        /** The load of a man, if he wore just these on that day. */
        int loadOfSet(int man, int set, int onDay) {
            int others = Integer.bitCount(set) - 1;
            int load = 0;
            for (int medal = 0; medal < medals; medal++) {
                if ((set >> medal & 1) == 1) {
                    load += bears(medal, man, others, onDay);
                }
            }
            return load;
        }

        int loadOn(int man, int onDay) {
            return loadOfSet(man, wornBy(man), onDay);
        }

        boolean isBent(int man) {
            return loadOn(man, day) > strength[man];
        }

        int allStrength() {
            int all = 0;
            for (int man = 0; man < men; man++) {
                all += strength[man];
            }
            return all;
        }

        int allLoads() {
            int all = 0;
            for (int man = 0; man < men; man++) {
                all += loadOn(man, day);
            }
            return all;
        }

        /** What that day makes of a man who has come to it with this strength. */
        int strengthAfter(int man, int itsStrength, int onDay) {
            return strengthNext(itsStrength, build[man], loadOn(man, onDay));
        }

        int strengthBehind(int man, int n) {
            int left = strength[man];
            for (int k = 0; k < n; k++) {
                left = strengthAfter(man, left, day + k);
            }
            return left;
        }

        int allBent() {
            int bent = 0;
            for (int man = 0; man < men; man++) {
                if (isBent(man)) {
                    bent |= 1 << man;
                }
            }
            return bent;
        }

        int bentBehind(int n) {
            int bent = 0;
            for (int man = 0; man < men; man++) {
                if (loadOn(man, day + n) > strengthBehind(man, n)) {
                    bent |= 1 << man;
                }
            }
            return bent;
        }

        boolean isBentWithin(int man, int n) {
            int left = strength[man];
            for (int k = 0; k <= n; k++) {
                if (loadOn(man, day + k) > left) {
                    return true;
                }
                left = strengthAfter(man, left, day + k);
            }
            return false;
        }

        boolean wornByTwo(int i, int j) {
            return wearer[i] != NONE && wearer[j] != NONE && wearer[i] != wearer[j];
        }

        /** Loads of the two who wear i and j together, had these changed hands. */
        int loadsIfChanged(int i, int j) {
            int both = 1 << i | 1 << j;
            int first = wearer[i];
            int second = wearer[j];
            return loadOfSet(first, wornBy(first) ^ both, day) + loadOfSet(second, wornBy(second) ^ both, day);
        }

        /** No load hangs on anyone's strength, so men may pass the day one behind the other. */
        void passDay() {
            for (int man = 0; man < men; man++) {
                strength[man] = strengthAfter(man, strength[man], day);
            }
            day++;
        }

        void drawAndHang() {
            draw = (int) (draw * 1103515245L + 12345L & 0x7fffffffL);
            if (medals > 0 && men > 0) {
                wearer[draw / 65536 % medals] = draw / 128 % men;
            }
        }
    }

    /** The latest things done, each as all was ahead of it. */
    private static final class Past {
        static final int WEIGHTS_FROM = MOST_MEN;
        static final int WEARERS_FROM = WEIGHTS_FROM + MOST_MEDALS;
        static final int DAY_AT = WEARERS_FROM + MOST_MEDALS;
        static final int DRAW_AT = DAY_AT + 1;
        static final int NUMBERS = DRAW_AT + 1;

        final int[][] kept = new int[MOST_UNDONE][NUMBERS];
        int known = 0;
        /** Where the next one goes: over the oldest, when all are taken. */
        int next = 0;

        void forget() {
            known = 0;
        }

        void keep(Muster m) {
            int[] numbers = kept[next];
            System.arraycopy(m.strength, 0, numbers, 0, MOST_MEN);
            System.arraycopy(m.weight, 0, numbers, WEIGHTS_FROM, MOST_MEDALS);
            System.arraycopy(m.wearer, 0, numbers, WEARERS_FROM, MOST_MEDALS);
            numbers[DAY_AT] = m.day;
            numbers[DRAW_AT] = m.draw;
            next = (next + 1) % MOST_UNDONE;
            known = Math.min(MOST_UNDONE, known + 1);
        }

        /** Makes all as it was ahead of the latest; false if none is known. */
        boolean giveBack(Muster m) {
            if (known == 0) {
                return false;
            }
            known--;
            next = (next + MOST_UNDONE - 1) % MOST_UNDONE;
            int[] numbers = kept[next];
            System.arraycopy(numbers, 0, m.strength, 0, MOST_MEN);
            System.arraycopy(numbers, WEIGHTS_FROM, m.weight, 0, MOST_MEDALS);
            System.arraycopy(numbers, WEARERS_FROM, m.wearer, 0, MOST_MEDALS);
            m.day = numbers[DAY_AT];
            m.draw = numbers[DRAW_AT];
            return true;
        }

        void take(Past other) {
            for (int i = 0; i < MOST_UNDONE; i++) {
                System.arraycopy(other.kept[i], 0, kept[i], 0, NUMBERS);
            }
            known = other.known;
            next = other.next;
        }
    }

    /** Ways to hang all that is worn anew, now. */
    private static final class Hanging {
        /** One more who is bent outweighs all changes of hands, of which there are at most six. */
        static final int BENT_COST = 16;
        /** Dearer than any way: loads stay below 300. */
        private static final int DEAREST = 1000000;

        private final Muster muster;
        private final int[][] loads = new int[MOST_MEN][SETS_OF_MEDALS];
        private int worn = 0;
        private final int[] setOf = new int[MOST_MEN];
        private final int[] tried = new int[MOST_MEDALS];
        private final int[] best = new int[MOST_MEDALS];
        private final int[] waysOfSet = new int[SETS_OF_MEDALS];
        private boolean wantsFew = false;
        int bestCost = 0;

        Hanging(Muster muster) {
            this.muster = muster;
        }

        /** Takes what is worn now, and what each man would bear of each part of it. */
        void prepare() {
            worn = muster.allWorn();
            for (int man = 0; man < muster.men; man++) {
                for (int set = 0; set <= worn; set++) {
                    if ((set & ~worn) == 0) {
                        loads[man][set] = muster.loadOfSet(man, set, muster.day);
                    }
                }
            }
        }

        void findEven() {
            wantsFew = false;
            find();
        }

        void findFew() {
            wantsFew = true;
            find();
        }

        private void find() {
            prepare();
            for (int man = 0; man < MOST_MEN; man++) {
                setOf[man] = 0;
            }
            for (int medal = 0; medal < MOST_MEDALS; medal++) {
                tried[medal] = NONE;
            }
            bestCost = DEAREST;
            hangFrom(0, 0);
        }

        /**
         * Hangs the medals from this one on. Ways come in the order that the document calls first;
         * no medal makes a way cheaper, so one that is no cheaper than the best is left at once.
         */
        private void hangFrom(int medal, int cost) {
            if (cost >= bestCost) {
                return;
            }
            if (medal >= MOST_MEDALS) {
                bestCost = cost;
                System.arraycopy(tried, 0, best, 0, MOST_MEDALS);
                return;
            }
            if ((worn >> medal & 1) == 0) {
                hangFrom(medal + 1, cost);
                return;
            }
            for (int man = 0; man < muster.men; man++) {
                int before = setOf[man];
                setOf[man] = before | 1 << medal;
                tried[medal] = man;
                hangFrom(medal + 1, wantsFew ? costOfFew(cost, man, before, medal) : costOfEven(cost, man));
                setOf[man] = before;
            }
        }

        private int costOfEven(int cost, int man) {
            return Math.max(cost, loads[man][setOf[man]]);
        }

        private int costOfFew(int cost, int man, int before, int medal) {
            int more = muster.wearer[medal] == man ? 0 : 1;
            if (!bends(man, before) && bends(man, setOf[man])) {
                more += BENT_COST;
            }
            return cost + more;
        }

        private boolean bends(int man, int set) {
            return loads[man][set] > muster.strength[man];
        }

        int wouldWear(int medal) {
            return medal >= 0 && medal < MOST_MEDALS ? best[medal] : NONE;
        }

        int ways() {
            return power(muster.men, Integer.bitCount(worn));
        }

        /** In how many ways this man is bent: the rest hangs on the others in any way. */
        int waysWithBent(int man) {
            int ways = 0;
            for (int set = 0; set <= worn; set++) {
                if ((set & ~worn) == 0 && bends(man, set)) {
                    ways += power(muster.men - 1, Integer.bitCount(worn & ~set));
                }
            }
            return ways;
        }

        /** Man by man: in how many ways a set hangs on those so far so that none of them is bent. */
        int waysWithNobodyBent() {
            for (int set = 0; set < SETS_OF_MEDALS; set++) {
                waysOfSet[set] = set == 0 ? 1 : 0;
            }
            for (int man = 0; man < muster.men; man++) {
                // A set needs only its parts as they were, and these come behind it on the way down.
                for (int set = worn; set >= 0; set--) {
                    if ((set & ~worn) == 0) {
                        waysOfSet[set] = waysWith(man, set);
                    }
                }
            }
            return waysOfSet[worn];
        }

        private int waysWith(int man, int set) {
            int ways = 0;
            for (int part = 0; part <= set; part++) {
                if ((part & ~set) == 0 && !bends(man, part)) {
                    ways += waysOfSet[set & ~part];
                }
            }
            return ways;
        }

        private static int power(int base, int exponent) {
            int product = 1;
            for (int i = 0; i < exponent; i++) {
                product *= base;
            }
            return product;
        }
    }

    /** THE TAPE, and how it is read as a STATE. */
    private static final class Tape {
        static final char END = 0;

        private final char[] letters = new char[MOST_LETTERS];
        int length = 0;
        /** Where the reader is; when it has stopped, where the fault is. */
        int place = 0;

        boolean add(char letter) {
            if (length >= MOST_LETTERS) {
                return false;
            }
            letters[length] = letter;
            length++;
            return true;
        }

        boolean readState(Muster into) {
            place = 0;
            if (!readMen(into)) {
                return false;
            }
            if (takes(';') && !readMedals(into)) {
                return false;
            }
            return nextLetter() == END;
        }

        private boolean readMen(Muster into) {
            for (int i = 0; i < MOST_MEN; i++) {
                if (!readMan(into)) {
                    return false;
                }
                if (i == MOST_MEN - 1 || !takes(',')) {
                    return true;
                }
            }
            return true;
        }

        private boolean readMan(Muster into) {
            int build = readNumber(1, MOST_BUILD);
            if (build < 0) {
                return false;
            }
            int less = takes('-') ? readNumber(0, build) : 0;
            if (less < 0) {
                return false;
            }
            into.addMan(build, build - less);
            return true;
        }

        private boolean readMedals(Muster into) {
            for (int i = 0; i < MOST_MEDALS; i++) {
                if (!readMedal(into)) {
                    return false;
                }
                if (i == MOST_MEDALS - 1 || !takes(',')) {
                    return true;
                }
            }
            return true;
        }

        private boolean readMedal(Muster into) {
            int kind = kindOf(nextLetter());
            if (kind < 0) {
                return false;
            }
            place++;
            int weight = readNumber(1, MOST_WEIGHT);
            if (weight < 0 || !takes(':')) {
                return false;
            }
            int wound = readManOf(into);
            if (wound < 0) {
                return false;
            }
            int wearer = NONE;
            if (takes('@')) {
                wearer = readManOf(into);
                if (wearer < 0) {
                    return false;
                }
            }
            into.addMedal(kind, weight, wound, wearer);
            return true;
        }

        private static int kindOf(char letter) {
            switch (letter) {
                case 'b': return BRONZE;
                case 'r': return BARRED;
                case 'f': return FOREIGN;
                case 'p': return PLATE;
                case 'm': return MINIATURE;
                default: return -1;
            }
        }

        /** The next letter behind blanks, which stays where it is. */
        private char nextLetter() {
            while (place < length && letters[place] == ' ') {
                place++;
            }
            return letterHere();
        }

        private char letterHere() {
            return place < length ? letters[place] : END;
        }

        private boolean takes(char letter) {
            if (nextLetter() != letter) {
                return false;
            }
            place++;
            return true;
        }

        /** A number of one or two digits; -1 with the place of the fault, if it is not as told. */
        private int readNumber(int least, int most) {
            if (!isDigit(nextLetter())) {
                return -1;
            }
            int start = place;
            int number = 0;
            for (int i = 0; i < 2 && isDigit(letterHere()); i++) {
                number = 10 * number + (letterHere() - '0');
                place++;
            }
            if (number < least || number > most) {
                place = start;
                return -1;
            }
            return number;
        }

        private int readManOf(Muster m) {
            char letter = nextLetter();
            if (!isDigit(letter) || !m.hasMan(letter - '0')) {
                return -1;
            }
            place++;
            return letter - '0';
        }

        private static boolean isDigit(char letter) {
            return letter >= '0' && letter <= '9';
        }
    }

    /** What a SHEET holds: items of one lane, or nothing. Made once and used again. */
    private static final class Row {
        boolean isThere = false;
        int lane = BYTES;
        int length = 0;
        final long[] items = new long[MOST_ITEMS];

        void begin(int itsLane, int n) {
            isThere = true;
            lane = itsLane;
            length = n;
            for (int i = 0; i < MOST_ITEMS; i++) {
                items[i] = 0;
            }
        }

        /** Why n items from i on can't be had of it as of that lane; 0 if they can. */
        int refuses(int asLane, int i, int n) {
            if (!isThere) {
                return NULL;
            }
            if (lane != asLane) {
                return CAST;
            }
            return reaches(i, n) ? 0 : INDEX;
        }

        boolean reaches(int i, int n) {
            return i >= 0 && n >= 0 && n <= length - i;
        }

        void put(int i, long v) {
            switch (lane) {
                case BYTES: items[i] = (byte) v; break;
                case SHORTS: items[i] = (short) v; break;
                case INTS: items[i] = (int) v; break;
                default: items[i] = v; break;
            }
        }
    }
}
