/** A terrace of houses in which what one house vows falls on the next one. */
public final class VowTerrace {
    public static final int BAD = -1, STATE = -2, FULL = -3, NONE = -4;

    private static final int PLAIN = 0, LEFT = 1, DRUNK = 2, JOINT = 3, THREAT = 4;
    private static final int SEA = -1;
    private static final int FEWEST_HOUSES = 2, FIRST_HOUSES = 3, MOST_HOUSES = 7;
    private static final int MOST_DEEDS = 5, MOST_COST = 9, MOST_PURSE = 99, MOST_DONE = 99;
    private static final int MOST_ODDS = 10, MOST_VOWS = 10, MOST_WANTS = 4;
    private static final int DEEPEST = 3, FOR_EVER = 9;
    private static final int MOST_DAYS = 60, MOST_DAYS_BEST = 20, END_OF_DAYS = 1000;
    private static final int TAPE_BYTES = 160, LAST_BYTE = 127;
    private static final int IMAGES = 2, SHEETS = 4, MOST_CELLS = 40, CELLS_OF_A_VOW = 4;
    private static final int BYTES = 0, SHORTS = 1, INTS = 2;
    private static final int NO_SHEET = 1, NO_INDEX = 2, NO_CAST = 3, NO_SIZE = 4;
    private static final int FAULT_BASE = -10, REFUSED_BASE = -20;
    private static final int DETAIL = 10;

    private final Terrace now = new Terrace();
    // texts and all questions that let days pass work here, so that nothing new is made
    private final Terrace trial = new Terrace();
    private final Terrace[] images = new Terrace[IMAGES];
    private final Reader reader = new Reader();
    private final Tape tape = reader.tape;
    private final Planner planner = new Planner();
    private final Sheet[] sheets = new Sheet[SHEETS];
    private int keptImages;
    private int latestTorn;

    public VowTerrace() {
        for (int k = 0; k < IMAGES; k++) {
            images[k] = new Terrace();
        }
        for (int k = 0; k < SHEETS; k++) {
            sheets[k] = new Sheet();
        }
    }

    // ---- the text

    public int feed(int c) {
        if (!within(c, 0, LAST_BYTE)) {
            return BAD;
        }
        return tape.append(c) ? tape.size : FULL;
    }

    public int end(int n) {
        if (!within(n, 0, tape.size)) {
            return BAD;
        }
        int had = tape.size;
        tape.size = n;
        return had;
    }

    public int text() {
        reader.readInto(trial);
        tape.size = 0;
        if (reader.found != 0) {
            return FAULT_BASE - reader.foundAt;
        }
        now.copyFrom(trial);
        keptImages = 0;
        return reader.lines;
    }

    public int fault() {
        return reader.found;
    }

    public int rule(int what) {
        switch (what) {
            case 0: return now.houses;
            case 1: return now.ring ? 1 : 0;
            case 2: return now.deeds;
            case 3: return now.vowRow.size;
            case 4: return now.wantRow.size;
            case 5: return now.day;
            case 6: return now.lost;
            case 7: return now.struck;
            case 8: return now.failed;
            default: return BAD;
        }
    }

    public int house(int h, int what) {
        if (!now.isHouse(h)) {
            return BAD;
        }
        switch (what) {
            case 0: return now.purse[h];
            case 1: return now.skills[h];
            case 2: return bit(now.lawyers, h);
            case 3: return now.habitKind[h];
            case 4: return now.habitDeed[h];
            case 5: return now.habitOdds[h];
            default: break;
        }
        // not by what - DETAIL: that wraps around for the least numbers
        if (!within(what, DETAIL, DETAIL + now.deeds - 1)) {
            return BAD;
        }
        return now.done[doneAt(h, what - DETAIL)];
    }

    public int cost(int d) {
        return now.isDeed(d) ? now.costs[d] : BAD;
    }

    public int vow(int i, int what) {
        if (!within(i, 0, now.vowRow.size - 1)) {
            return BAD;
        }
        switch (what) {
            case 0: return now.vowRow.house[i];
            case 1: return now.vowRow.kind[i];
            case 2: return now.vowRow.deep[i];
            case 3: return now.vowRow.deed[i];
            default: return BAD;
        }
    }

    public int want(int i, int what) {
        if (!within(i, 0, now.wantRow.size - 1)) {
            return BAD;
        }
        switch (what) {
            case 0: return now.wantRow.house[i];
            case 1: return now.wantRow.deed[i];
            default: return BAD;
        }
    }

    // ---- what is changed

    public int fund(int h, int v) {
        if (!now.isHouse(h) || !within(v, 0, MOST_PURSE)) {
            return BAD;
        }
        int was = now.purse[h];
        now.purse[h] = v;
        return was;
    }

    public int can(int h, int d, boolean is) {
        if (!now.isHouse(h) || !now.isDeed(d)) {
            return BAD;
        }
        int was = bit(now.skills[h], d);
        now.skills[h] = withBit(now.skills[h], d, is);
        return was;
    }

    public int lawyer(int h, boolean is) {
        if (!now.isHouse(h)) {
            return BAD;
        }
        int was = bit(now.lawyers, h);
        now.lawyers = withBit(now.lawyers, h, is);
        return was;
    }

    public int habit(int h, int kind, int d, int odds) {
        if (!now.isHouse(h) || !isKind(kind) || !now.isDeed(d) || !within(odds, 0, MOST_ODDS)) {
            return BAD;
        }
        int was = now.habitOdds[h];
        now.setHabit(h, kind, d, odds);
        return was;
    }

    public int vows(int h, int kind, int deep, int d) {
        if (!now.isHouse(h) || !isKind(kind) || !isDepth(deep) || !now.isDeed(d)) {
            return BAD;
        }
        return now.vowRow.append(h, kind, deep, d) ? now.vowRow.size : FULL;
    }

    public int wish(int h, int d) {
        if (!now.isHouse(h) || !now.isDeed(d)) {
            return BAD;
        }
        return now.wantRow.append(h, d) ? now.wantRow.size : FULL;
    }

    public int drop(int what, int n) {
        if (!within(what, 0, 1)) {
            return BAD;
        }
        int were = what == 0 ? now.vowRow.size : now.wantRow.size;
        if (!within(n, 0, were)) {
            return BAD;
        }
        if (what == 0) {
            now.vowRow.size = n;
        } else {
            now.wantRow.size = n;
        }
        return were;
    }

    public int move(int a, int b) {
        if (!now.isHouse(a) || !now.isHouse(b) || a == b) {
            return BAD;
        }
        now.changeHouses(a, b);
        return Integer.bitCount(now.skills[a]);
    }

    // ---- days

    public int go(int n) {
        if (!within(n, 0, MOST_DAYS)) {
            return BAD;
        }
        if (now.day + n >= END_OF_DAYS) {
            return FULL;
        }
        return now.passDays(n);
    }

    public int ahead(int h, int d, int n) {
        if (!now.isHouse(h) || !now.isDeed(d) || !within(n, 0, MOST_DAYS)) {
            return BAD;
        }
        trial.copyFrom(now);
        trial.passDays(n);
        return trial.done[doneAt(h, d)];
    }

    public int rest() {
        trial.copyFrom(now);
        for (int days = 0; days <= MOST_DAYS; days++) {
            if (trial.vowRow.size == 0) {
                return days;
            }
            trial.passDay();
        }
        return NONE;
    }

    // ---- what to vow

    public int plan(int what) {
        if (what != 0 && what < DETAIL) {
            return BAD;
        }
        int fewest = planner.fewestVows(now);
        if (what == 0 || fewest == NONE) {
            return fewest;
        }
        int i = what - DETAIL;
        return i < fewest ? planner.vowOfFirstSet(now, i) : NONE;
    }

    public int who(int h, int d, int n) {
        if (!now.isHouse(h) || !now.isDeed(d) || !within(n, 1, DEEPEST + 1)) {
            return BAD;
        }
        int bringers = 0;
        for (int from = 0; from < now.houses; from++) {
            for (int kind = PLAIN; kind < THREAT; kind++) {
                if (bit(now.broughtBy(numberOf(from, kind, n - 1, d)), h) == 1) {
                    bringers = withBit(bringers, from, true);
                }
            }
        }
        return bringers;
    }

    public int ways(int h, int d, int what) {
        if (!now.isHouse(h) || !now.isDeed(d) || !within(what, 0, 1)) {
            return BAD;
        }
        int many = 0;
        for (int number = d; number < numbersOf(now.houses); number += MOST_DEEDS) {
            if (bit(now.broughtBy(number), h) == 1) {
                if (what == 1) {
                    return number;
                }
                many++;
            }
        }
        return what == 0 ? many : NONE;
    }

    // ---- for ever

    public int ever() {
        int endless = 0;
        for (int i = 0; i < now.vowRow.size; i++) {
            endless = withBit(endless, i, now.isEndless(i, now.lawyers));
        }
        return endless;
    }

    public int stop(int what) {
        if (!within(what, 0, 1)) {
            return BAD;
        }
        // lawyers in every house stop all, so there is always a set
        int least = (1 << now.houses) - 1 & ~now.lawyers;
        int fewest = MOST_HOUSES + 1;
        for (int set = 0; set < 1 << now.houses; set++) {
            boolean fewer = (set & now.lawyers) == 0 && Integer.bitCount(set) < fewest;
            if (fewer && !now.hasEndless(now.lawyers | set)) {
                least = set;
                fewest = Integer.bitCount(set);
            }
        }
        return what == 0 ? Integer.bitCount(least) : least;
    }

    // ---- who lives where

    public int best(int n, int what) {
        if (!within(n, 1, MOST_DAYS_BEST) || !within(what, 0, 1)) {
            return BAD;
        }
        trial.copyFrom(now);
        int most = trial.passDays(n);
        int pair = NONE;
        for (int a = 0; a < now.houses; a++) {
            for (int b = a + 1; b < now.houses; b++) {
                trial.copyFrom(now);
                trial.changeHouses(a, b);
                int often = trial.passDays(n);
                if (often > most) {
                    most = often;
                    pair = 10 * a + b;
                }
            }
        }
        return what == 0 || pair == NONE ? pair : most;
    }

    // ---- habits

    public long mean(int h, int what) {
        if (!now.isHouse(h) || !within(what, 0, 1)) {
            return BAD;
        }
        long tenths = 0;
        for (int from = 0; from < now.houses; from++) {
            tenths += now.habitOdds[from] * now.habitCost(from, h);
        }
        return partOfFraction(tenths, MOST_ODDS, what);
    }

    public long luck(int h, int what) {
        if (!now.isHouse(h) || !within(what, 0, 1)) {
            return BAD;
        }
        long good = 0;
        long all = 0;
        for (int set = 0; set < 1 << now.houses; set++) {
            long weight = now.habitWeight(set);
            all += weight;
            if (now.canPayHabits(set, h)) {
                good += weight;
            }
        }
        return partOfFraction(good, all, what);
    }

    // ---- by a seed

    public int drift(int seed, int n, int what) {
        if (!within(n, 1, MOST_DAYS) || !within(what, 0, 1)) {
            return BAD;
        }
        trial.copyFrom(now);
        int state = seed;
        int often = 0;
        for (int i = 0; i < n; i++) {
            state = state * 1103515245 + 12345;
            trial.vowByHabit(Math.floorMod(state >>> 16 & 0x7fff, Math.max(1, trial.houses)));
            often += trial.passDay();
        }
        return what == 0 ? often : trial.failed - now.failed;
    }

    // ---- images, sheets

    public int keep(int k) {
        if (!within(k, 0, IMAGES - 1)) {
            return BAD;
        }
        int was = bit(keptImages, k);
        images[k].copyFrom(now);
        keptImages = withBit(keptImages, k, true);
        return was;
    }

    public int back(int k) {
        if (!within(k, 0, IMAGES - 1)) {
            return BAD;
        }
        if (bit(keptImages, k) == 0) {
            return STATE;
        }
        now.copyFrom(images[k]);
        return now.day;
    }

    public int sheet(int k, int lane, int n) {
        if (!isSheet(k) || !isLane(lane) || n > MOST_CELLS) {
            return BAD;
        }
        if (n < 0) {
            return FAULT_BASE - NO_SIZE;
        }
        sheets[k].renew(lane, n);
        return 1;
    }

    public int lay(int k, int i, int v) {
        if (!isSheet(k)) {
            return BAD;
        }
        int found = sheets[k].faultOfCells(i, 1);
        if (found != 0) {
            return FAULT_BASE - found;
        }
        sheets[k].put(i, v);
        return 1;
    }

    public int read(int k, int lane, int f, int n) {
        if (!isSheet(k) || !isLane(lane) || !within(n, 0, MOST_VOWS)) {
            return BAD;
        }
        Sheet sheet = sheets[k];
        int before = now.vowRow.size;
        int found = sheet.faultOfLane(lane);
        int came = 0;
        for (int i = 0; i < n && found == 0; i++) {
            int at = f + CELLS_OF_A_VOW * i;
            found = sheet.faultOfCells(at, CELLS_OF_A_VOW);
            if (found == 0) {
                if (vowFromCells(sheet.cells, at) < 0) {
                    now.vowRow.size = before;
                    return REFUSED_BASE - i;
                }
                came++;
            }
        }
        latestTorn = found;
        return came;
    }

    public int torn() {
        return latestTorn;
    }

    public int count(int what) {
        switch (what) {
            case 0: return now.allDone();
            case 1: return now.allPurses();
            case 2: return Integer.bitCount(now.lawyers);
            case 3: return Integer.bitCount(keptImages);
            case 4: return tape.size;
            case 5: return sheets[0].isNothing() ? NONE : sheets[0].size;
            case 6: return now.vowRow.manyForEver();
            default: return BAD;
        }
    }

    private int vowFromCells(int[] cells, int at) {
        return vows(cells[at], cells[at + 1], cells[at + 2], cells[at + 3]);
    }

    private static boolean within(int v, int least, int most) {
        return least <= v && v <= most;
    }

    private static boolean isKind(int kind) {
        return within(kind, PLAIN, THREAT);
    }

    private static boolean isDepth(int deep) {
        return within(deep, 0, DEEPEST) || deep == FOR_EVER;
    }

    private static boolean isSheet(int k) {
        return within(k, 0, SHEETS - 1);
    }

    private static boolean isLane(int lane) {
        return within(lane, BYTES, INTS);
    }

    private static int bit(int bits, int i) {
        return bits >> i & 1;
    }

    private static int withBit(int bits, int i, boolean is) {
        return is ? bits | 1 << i : bits & ~(1 << i);
    }

    private static int doneAt(int h, int d) {
        return h * MOST_DEEDS + d;
    }

    private static int numberOf(int h, int kind, int deep, int d) {
        return 100 * h + 20 * kind + 5 * deep + d;
    }

    /** All NUMBERS of VOWS that so many HOUSES can make are below this. */
    private static int numbersOf(int houses) {
        return 100 * houses;
    }

    /** The numerator (what 0) or the denominator of part by whole, in lowest terms. */
    private static long partOfFraction(long part, long whole, int what) {
        long divisor = part;
        long left = whole;
        for (int i = 0; i < 100 && left != 0; i++) {
            long over = divisor % left;
            divisor = left;
            left = over;
        }
        long share = what == 0 ? part : whole;
        return divisor > 0 ? share / divisor : share;
    }

    /** VOWS by order. */
    private static final class VowRow {
        int size;
        final int[] house = new int[MOST_VOWS];
        final int[] kind = new int[MOST_VOWS];
        final int[] deep = new int[MOST_VOWS];
        final int[] deed = new int[MOST_VOWS];

        boolean append(int h, int k, int howDeep, int d) {
            if (size >= MOST_VOWS) {
                return false;
            }
            house[size] = h;
            kind[size] = k;
            deep[size] = howDeep;
            deed[size] = d;
            size++;
            return true;
        }

        void copyFrom(VowRow other) {
            size = other.size;
            System.arraycopy(other.house, 0, house, 0, MOST_VOWS);
            System.arraycopy(other.kind, 0, kind, 0, MOST_VOWS);
            System.arraycopy(other.deep, 0, deep, 0, MOST_VOWS);
            System.arraycopy(other.deed, 0, deed, 0, MOST_VOWS);
        }

        int manyForEver() {
            int many = 0;
            for (int i = 0; i < size; i++) {
                if (deep[i] == FOR_EVER) {
                    many++;
                }
            }
            return many;
        }
    }

    /** WANTS by order. */
    private static final class WantRow {
        int size;
        final int[] house = new int[MOST_WANTS];
        final int[] deed = new int[MOST_WANTS];

        boolean append(int h, int d) {
            if (size >= MOST_WANTS) {
                return false;
            }
            house[size] = h;
            deed[size] = d;
            size++;
            return true;
        }

        void copyFrom(WantRow other) {
            size = other.size;
            System.arraycopy(other.house, 0, house, 0, MOST_WANTS);
            System.arraycopy(other.deed, 0, deed, 0, MOST_WANTS);
        }
    }

    /** All that a text tells and that days change. */
    private static final class Terrace {
        int houses = FIRST_HOUSES;
        boolean ring;
        int deeds;
        final int[] costs = new int[MOST_DEEDS];
        final int[] purse = new int[MOST_HOUSES];
        final int[] skills = new int[MOST_HOUSES];
        int lawyers;
        final int[] habitKind = new int[MOST_HOUSES];
        final int[] habitDeed = new int[MOST_HOUSES];
        final int[] habitOdds = new int[MOST_HOUSES];
        final int[] done = new int[MOST_HOUSES * MOST_DEEDS];
        VowRow vowRow = new VowRow();
        VowRow fallen = new VowRow();
        final WantRow wantRow = new WantRow();
        int day;
        int lost;
        int struck;
        int failed;

        boolean isHouse(int h) {
            return within(h, 0, houses - 1);
        }

        boolean isDeed(int d) {
            return within(d, 0, deeds - 1);
        }

        void makeNew() {
            houses = FIRST_HOUSES;
            ring = false;
            deeds = 0;
            lawyers = 0;
            for (int h = 0; h < MOST_HOUSES; h++) {
                purse[h] = 0;
                skills[h] = 0;
                setHabit(h, PLAIN, 0, 0);
            }
            for (int i = 0; i < MOST_HOUSES * MOST_DEEDS; i++) {
                done[i] = 0;
            }
            vowRow.size = 0;
            wantRow.size = 0;
            day = 0;
            lost = 0;
            struck = 0;
            failed = 0;
        }

        void copyFrom(Terrace other) {
            houses = other.houses;
            ring = other.ring;
            deeds = other.deeds;
            lawyers = other.lawyers;
            System.arraycopy(other.costs, 0, costs, 0, MOST_DEEDS);
            System.arraycopy(other.purse, 0, purse, 0, MOST_HOUSES);
            System.arraycopy(other.skills, 0, skills, 0, MOST_HOUSES);
            System.arraycopy(other.habitKind, 0, habitKind, 0, MOST_HOUSES);
            System.arraycopy(other.habitDeed, 0, habitDeed, 0, MOST_HOUSES);
            System.arraycopy(other.habitOdds, 0, habitOdds, 0, MOST_HOUSES);
            System.arraycopy(other.done, 0, done, 0, MOST_HOUSES * MOST_DEEDS);
            vowRow.copyFrom(other.vowRow);
            wantRow.copyFrom(other.wantRow);
            day = other.day;
            lost = other.lost;
            struck = other.struck;
            failed = other.failed;
        }

        void addDeed(int price) {
            if (deeds < MOST_DEEDS) {
                costs[deeds] = price;
                deeds++;
            }
        }

        void setHabit(int h, int kind, int d, int odds) {
            habitKind[h] = kind;
            habitDeed[h] = d;
            habitOdds[h] = odds;
        }

        void changeHouses(int a, int b) {
            int money = purse[a];
            purse[a] = purse[b];
            purse[b] = money;
            int able = skills[a];
            skills[a] = skills[b];
            skills[b] = able;
        }

        int allDone() {
            int sum = 0;
            for (int i = 0; i < MOST_HOUSES * MOST_DEEDS; i++) {
                sum += done[i];
            }
            return sum;
        }

        int allPurses() {
            int sum = 0;
            for (int h = 0; h < houses; h++) {
                sum += purse[h];
            }
            return sum;
        }

        /** How many HOUSES a VOW of a KIND falls on (or into THE SEA). */
        static int fallsOf(int kind) {
            return kind == JOINT ? 2 : 1;
        }

        /** How many HOUSES to the right fall i of a VOW of a KIND goes. */
        static int stepOf(int kind, int i) {
            if (kind == LEFT || kind == JOINT && i == 0) {
                return -1;
            }
            return kind == DRUNK ? 2 : 1;
        }

        /** Where what is made in HOUSE h falls by such a step; SEA. */
        int whereFalls(int h, int step) {
            int to = h + step;
            if (ring && houses > 0) {
                return (to + houses) % houses;
            }
            return 0 <= to && to < houses ? to : SEA;
        }

        /** How often DEEDS are done in so many DAYS. */
        int passDays(int n) {
            int often = 0;
            for (int i = 0; i < n; i++) {
                often += passDay();
            }
            return often;
        }

        int passDay() {
            int often = 0;
            fallen.size = 0;
            for (int i = 0; i < vowRow.size; i++) {
                int kind = vowRow.kind[i];
                for (int side = 0; side < fallsOf(kind); side++) {
                    int to = whereFalls(vowRow.house[i], stepOf(kind, side));
                    often += letFall(i, to) ? 1 : 0;
                }
            }
            VowRow spare = vowRow;
            vowRow = fallen;
            fallen = spare;
            day++;
            return often;
        }

        /** VOW i comes down: whether a DEED is done by it. */
        private boolean letFall(int i, int to) {
            if (to == SEA) {
                lost++;
                return false;
            }
            if (bit(lawyers, to) == 1) {
                struck++;
                return false;
            }
            int deep = vowRow.deep[i];
            if (deep > 0) {
                int left = deep == FOR_EVER ? FOR_EVER : deep - 1;
                if (!fallen.append(to, vowRow.kind[i], left, vowRow.deed[i])) {
                    lost++;
                }
                return false;
            }
            return comesTrue(to, vowRow.kind[i], vowRow.deed[i]);
        }

        private boolean comesTrue(int h, int kind, int d) {
            int at = doneAt(h, d);
            if (kind == THREAT) {
                done[at] = Math.max(0, done[at] - 1);
                return false;
            }
            if (bit(skills[h], d) == 0 || purse[h] < costs[d]) {
                failed++;
                return false;
            }
            done[at] = Math.min(MOST_DONE, done[at] + 1);
            purse[h] -= costs[d];
            return true;
        }

        /** HOUSES on which VOWS of a KIND made in a set of HOUSES fall, if no LAWYER strikes them. */
        private int fallSet(int set, int kind, int law) {
            int falls = 0;
            for (int side = 0; side < fallsOf(kind); side++) {
                falls |= shiftSet(set, stepOf(kind, side));
            }
            return falls & ~law;
        }

        private int shiftSet(int set, int step) {
            int all = (1 << houses) - 1;
            if (ring && houses > 0) {
                int round = (step + houses) % houses;
                return (set << round | set >> houses - round) & all;
            }
            return (step < 0 ? set >> -step : set << step) & all;
        }

        /** HOUSES to which the VOW with a NUMBER, by itself, BRINGS its DEED. */
        int broughtBy(int number) {
            int kind = number / 20 % 5;
            if (kind == THREAT) {
                return 0;
            }
            int set = 1 << number / 100;
            for (int deep = number / 5 % 4; deep >= 0; deep--) {
                set = fallSet(set, kind, lawyers);
            }
            for (int h = 0; h < houses; h++) {
                if (bit(skills[h], number % 5) == 0) {
                    set = withBit(set, h, false);
                }
            }
            return set;
        }

        boolean isEndless(int i, int law) {
            if (vowRow.deep[i] != FOR_EVER) {
                return false;
            }
            // who walks on for as many days as there are houses is in a round
            int set = 1 << vowRow.house[i];
            for (int days = 0; days < MOST_HOUSES; days++) {
                set = fallSet(set, vowRow.kind[i], law);
            }
            return set != 0;
        }

        boolean hasEndless(int law) {
            for (int i = 0; i < vowRow.size; i++) {
                if (isEndless(i, law)) {
                    return true;
                }
            }
            return false;
        }

        /** How often a VOW by the HABIT of a HOUSE is to be done in another. */
        private int habitFalls(int from, int h) {
            if (habitOdds[from] == 0 || habitKind[from] == THREAT || bit(lawyers, h) == 1) {
                return 0;
            }
            int falls = 0;
            for (int side = 0; side < fallsOf(habitKind[from]); side++) {
                falls += whereFalls(from, stepOf(habitKind[from], side)) == h ? 1 : 0;
            }
            return falls;
        }

        int habitCost(int from, int h) {
            return habitFalls(from, h) * costs[habitDeed[from]];
        }

        /** How likely just a set of HOUSES vows by HABIT, in tenths of tenths, a tenth for each HOUSE. */
        long habitWeight(int set) {
            long weight = 1;
            for (int h = 0; h < houses; h++) {
                weight *= bit(set, h) == 1 ? habitOdds[h] : MOST_ODDS - habitOdds[h];
            }
            return weight;
        }

        boolean canPayHabits(int set, int h) {
            int sum = 0;
            for (int from = 0; from < houses; from++) {
                if (bit(set, from) == 1 && habitFalls(from, h) > 0) {
                    if (bit(skills[h], habitDeed[from]) == 0) {
                        return false;
                    }
                    sum += habitCost(from, h);
                }
            }
            return sum <= purse[h];
        }

        void vowByHabit(int h) {
            if (isHouse(h) && habitOdds[h] != 0) {
                vowRow.append(h, habitKind[h], 0, habitDeed[h]);
            }
        }
    }

    /** The fewest VOWS that BRING all WANTS; a set of WANTS is bits. */
    private static final class Planner {
        private static final int SETS = 1 << MOST_WANTS, TOO_MANY = 99;
        private final boolean[] bringable = new boolean[SETS];
        private final int[] fewestFor = new int[SETS];

        int fewestVows(Terrace t) {
            for (int set = 0; set < SETS; set++) {
                bringable[set] = false;
            }
            for (int number = 0; number < numbersOf(t.houses); number++) {
                bringable[wantsBrought(t, number)] = true;
            }
            fewestFor[0] = 0;
            for (int set = 1; set < SETS; set++) {
                fewestFor[set] = TOO_MANY;
                for (int part = 1; part < SETS; part++) {
                    if (bringable[part] && (part & set) != 0) {
                        fewestFor[set] = Math.min(fewestFor[set], fewestFor[set & ~part] + 1);
                    }
                }
            }
            int fewest = fewestFor[allWants(t)];
            return fewest < TOO_MANY ? fewest : NONE;
        }

        /** NUMBER of VOW i of the first set; fewestVows has been asked, and is more than i. */
        int vowOfFirstSet(Terrace t, int i) {
            int left = allWants(t);
            int at = 0;
            // the least NUMBER that leaves one VOW fewer to find is in the first set,
            // and so is the next such one behind it
            for (int number = 0; number < numbersOf(t.houses); number++) {
                int rest = left & ~wantsBrought(t, number);
                if (fewestFor[rest] < fewestFor[left]) {
                    if (at == i) {
                        return number;
                    }
                    at++;
                    left = rest;
                }
            }
            return NONE;
        }

        private static int allWants(Terrace t) {
            return (1 << t.wantRow.size) - 1;
        }

        private static int wantsBrought(Terrace t, int number) {
            int to = number % MOST_DEEDS < t.deeds ? t.broughtBy(number) : 0;
            int set = 0;
            for (int i = 0; i < t.wantRow.size; i++) {
                boolean is = t.wantRow.deed[i] == number % MOST_DEEDS && bit(to, t.wantRow.house[i]) == 1;
                set = withBit(set, i, is);
            }
            return set;
        }
    }

    /** Bytes that wait to be read. */
    private static final class Tape {
        int size;
        final int[] bytes = new int[TAPE_BYTES];

        boolean append(int c) {
            if (size >= TAPE_BYTES) {
                return false;
            }
            bytes[size] = c;
            size++;
            return true;
        }
    }

    /** Reads a text; each TOKEN is read only when the one before has been judged. */
    private static final class Reader {
        private static final int THE_END = 0, NAME = 1, NUMBER = 2, STROKE = 3, UNKNOWN = 4;
        private static final int NO_TOKEN = 1, MISPLACED = 2, OUT_OF_BOUNDS = 3;
        private static final int TOLD_TWICE = 4, TOO_MANY = 5, NOT_THERE = 6;
        private static final int BLANK = 32, MOST_FIGURES = 2;
        final Tape tape = new Tape();
        private int at;
        private int token;
        private int start;
        int found;
        int foundAt;
        int lines;
        private boolean shaped;
        private int toldHouses;
        private int toldLawyers;
        private int toldHabits;
        private int greatestHouse;
        private int greatestDeed;

        void readInto(Terrace t) {
            t.makeNew();
            at = 0;
            found = 0;
            foundAt = 0;
            lines = 0;
            shaped = false;
            toldHouses = 0;
            toldLawyers = 0;
            toldHabits = 0;
            greatestHouse = -1;
            greatestDeed = -1;
            readToken();
            // a line has more than one byte
            for (int i = 0; i < TAPE_BYTES && found == 0 && token != THE_END; i++) {
                readLine(t);
                needStroke();
                lines++;
                readToken();
            }
            if (greatestHouse >= t.houses || greatestDeed >= t.deeds) {
                complain(NOT_THERE, tape.size);
            }
        }

        /** The first fault alone is kept. */
        private void complain(int fault, int place) {
            if (found == 0) {
                found = fault;
                foundAt = place;
            }
        }

        private void readLine(Terrace t) {
            if (isName("row")) {
                readShape(t, false);
            } else if (isName("ring")) {
                readShape(t, true);
            } else if (isName("deed")) {
                readDeed(t);
            } else if (isName("house")) {
                readHouse(t);
            } else if (isName("lawyer")) {
                readLawyer(t);
            } else if (isName("habit")) {
                readHabit(t);
            } else if (isName("vow")) {
                readVow(t);
            } else if (isName("want")) {
                readWant(t);
            } else {
                complain(MISPLACED, start);
            }
        }

        private void readShape(Terrace t, boolean ring) {
            if (shaped) {
                complain(TOLD_TWICE, start);
            }
            shaped = true;
            t.houses = needNumber(FEWEST_HOUSES, MOST_HOUSES);
            t.ring = ring;
            readToken();
        }

        private void readDeed(Terrace t) {
            if (t.deeds >= MOST_DEEDS) {
                complain(TOO_MANY, start);
            }
            t.addDeed(needNumber(0, MOST_COST));
            readToken();
        }

        private void readHouse(Terrace t) {
            int h = needHouse();
            toldHouses = tellOnce(toldHouses, h);
            t.purse[h] = needNumber(0, MOST_PURSE);
            readToken();
            for (int i = 0; i < TAPE_BYTES && found == 0 && token == NUMBER; i++) {
                int d = noteDeed(numberHere(0, MOST_DEEDS - 1));
                t.skills[h] = tellOnce(t.skills[h], d);
                readToken();
            }
        }

        private void readLawyer(Terrace t) {
            int h = needHouse();
            toldLawyers = tellOnce(toldLawyers, h);
            t.lawyers = toldLawyers;
            readToken();
        }

        private void readHabit(Terrace t) {
            int h = needHouse();
            toldHabits = tellOnce(toldHabits, h);
            int kind = needKind();
            int d = needDeed();
            t.setHabit(h, kind, d, needNumber(0, MOST_ODDS));
            readToken();
        }

        private void readVow(Terrace t) {
            if (t.vowRow.size >= MOST_VOWS) {
                complain(TOO_MANY, start);
            }
            int h = needHouse();
            int kind = needKind();
            int deep = needNumber(0, FOR_EVER);
            if (!isDepth(deep)) {
                complain(OUT_OF_BOUNDS, start);
            }
            t.vowRow.append(h, kind, deep, needDeed());
            readToken();
        }

        private void readWant(Terrace t) {
            if (t.wantRow.size >= MOST_WANTS) {
                complain(TOO_MANY, start);
            }
            int h = needHouse();
            t.wantRow.append(h, needDeed());
            readToken();
        }

        private void needStroke() {
            if (token != STROKE) {
                complain(MISPLACED, start);
            }
        }

        /** The bits with one more, which must be new. */
        private int tellOnce(int bits, int i) {
            if (bit(bits, i) == 1) {
                complain(TOLD_TWICE, start);
            }
            return withBit(bits, i, true);
        }

        private int needHouse() {
            readToken();
            int h = numberHere(0, MOST_HOUSES - 1);
            greatestHouse = Math.max(greatestHouse, h);
            return h;
        }

        private int needDeed() {
            readToken();
            return noteDeed(numberHere(0, MOST_DEEDS - 1));
        }

        private int noteDeed(int d) {
            greatestDeed = Math.max(greatestDeed, d);
            return d;
        }

        private int needNumber(int least, int most) {
            readToken();
            return numberHere(least, most);
        }

        /** The NUMBER that was read; where there is a fault, the least that may be. */
        private int numberHere(int least, int most) {
            if (token != NUMBER) {
                complain(MISPLACED, start);
                return least;
            }
            int value = 0;
            for (int i = start; i < at; i++) {
                value = 10 * value + tape.bytes[i] - '0';
            }
            if (!within(value, least, most)) {
                complain(OUT_OF_BOUNDS, start);
            }
            return found == 0 ? value : least;
        }

        private int needKind() {
            readToken();
            if (isName("plain")) {
                return PLAIN;
            }
            if (isName("left")) {
                return LEFT;
            }
            if (isName("drunk")) {
                return DRUNK;
            }
            if (isName("joint")) {
                return JOINT;
            }
            if (!isName("threat")) {
                complain(MISPLACED, start);
            }
            return THREAT;
        }

        private boolean isName(String name) {
            if (token != NAME || at - start != name.length()) {
                return false;
            }
            for (int i = 0; i < name.length(); i++) {
                if (tape.bytes[start + i] != name.charAt(i)) {
                    return false;
                }
            }
            return true;
        }

        /** Behind a fault nothing more is read. */
        private void readToken() {
            if (found != 0) {
                return;
            }
            while (at < tape.size && tape.bytes[at] == BLANK) {
                at++;
            }
            start = at;
            if (at >= tape.size) {
                token = THE_END;
                return;
            }
            token = sortOf(tape.bytes[at]);
            at++;
            while (token != STROKE && at < tape.size && sortOf(tape.bytes[at]) == token) {
                at++;
            }
            if (token == UNKNOWN || token == NUMBER && at - start > MOST_FIGURES) {
                complain(NO_TOKEN, start);
            }
        }

        /** The sort of TOKEN that a byte may stand in. */
        private static int sortOf(int c) {
            if ('a' <= c && c <= 'z') {
                return NAME;
            }
            if ('0' <= c && c <= '9') {
                return NUMBER;
            }
            return c == ';' ? STROKE : UNKNOWN;
        }
    }

    /** A row of CELLS of one lane, or nothing. */
    private static final class Sheet {
        private static final int NOTHING = -1;
        private int lane = NOTHING;
        int size;
        final int[] cells = new int[MOST_CELLS];

        boolean isNothing() {
            return lane == NOTHING;
        }

        void renew(int newLane, int n) {
            lane = newLane;
            size = n;
            for (int i = 0; i < MOST_CELLS; i++) {
                cells[i] = 0;
            }
        }

        void put(int i, int v) {
            if (lane == BYTES) {
                cells[i] = (byte) v;
            } else if (lane == SHORTS) {
                cells[i] = (short) v;
            } else {
                cells[i] = v;
            }
        }

        /** As the machine casts: nothing may be taken as of any lane. */
        int faultOfLane(int asOf) {
            return isNothing() || lane == asOf ? 0 : NO_CAST;
        }

        /** What the machine finds when so many CELLS from one on are used. */
        int faultOfCells(int first, int n) {
            if (isNothing()) {
                return NO_SHEET;
            }
            return within(first, 0, size - n) ? 0 : NO_INDEX;
        }
    }
}
