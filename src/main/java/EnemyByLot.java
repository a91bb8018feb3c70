import java.util.Arrays;

/** An enemy by lot: ../shared/DOC.md tells what each call answers. */
public final class EnemyByLot {
    public static final int BAD = -1, FULL = -2, FINDING = -3, STATE = -4, SPENT = -6, NONE = -9;

    private static final int ALLOWED = 0, MISSING = -1;
    private static final int NOTHING = 1, BEYOND = 2, UNLIKE = 3, NOUGHT = 4, SIZE = 5;
    private static final int ZEALOT = 1, SAINT = 2, HEDGER = 3, SWORN = 4, LENIENT = 5;
    private static final int RESTS = 0, DOES = 1, THWARTS = 2;
    private static final int ROWS = 6, ROW_PLACES = 40, TEXTS = 4, TEXT_PLACES = 60, SHELVES = 3;
    private static final int MOST_PERSONS = 6, MOST_LOVES = 8, MOST_TURNS = 40;
    private static final int SHEETS = (MOST_TURNS + 1) * MOST_PERSONS;
    private static final int TRAITS = 9, COUNTS = 10;
    private static final int MOST_WEEKS = 30, MOST_PACE = 9, MOST_ROW_WEEKS = 8, MOST_LOTS = 20;
    private static final int BLANK = 32, LOVE = 111, NOBODY = 45, NOUGHT_FIGURE = 48;
    private static final int[] LETTERS = {112, 122, 115, 104, 119, 108};
    /** There are 309 MAPS at most: six PERSONS, five of them VICTIMS. */
    private static final int MOST_MAPS = 320;
    private static final int MAP_BITS = 3, MAP_NOBODY = 7, SETS = 1 << MOST_PERSONS;
    private static final long LOT_FACTOR = 48271L, LOT_MODULUS = 2147483647L;

    /** A ROW or a TEXT. */
    private static final class Line {
        private final int[] places;
        private int size;

        Line(int most) {
            places = new int[Math.max(0, most)];
            size = MISSING;
        }

        boolean isMissing() {
            return size < 0;
        }

        boolean holds(int i) {
            return i >= 0 && i < size && i < places.length;
        }

        boolean holdsSpan(int i, int n) {
            return i >= 0 && n >= 0 && (long) i + n <= Math.min(size, places.length);
        }

        int get(int i) {
            return holds(i) ? places[i] : 0;
        }

        void set(int i, int v) {
            if (holds(i)) {
                places[i] = v;
            }
        }

        void renew(int n, int v) {
            size = Math.max(0, Math.min(n, places.length));
            for (int i = 0; i < size; i++) {
                set(i, v);
            }
        }

        void discard() {
            size = MISSING;
        }

        void take(Line from, int i, int j, int n) {
            if (from.holdsSpan(i, n) && holdsSpan(j, n)) {
                System.arraycopy(from.places, i, places, j, n);
            }
        }

        /** Call it only if there are places. */
        int meanCut() {
            long sum = 0;
            for (int i = 0; i < size; i++) {
                sum += get(i);
            }
            return size > 0 ? (int) (sum / size) : 0;
        }

        long mixInto(long h) {
            long mixed = 31 * h + size;
            for (int i = 0; i < size; i++) {
                mixed = 31 * mixed + get(i);
            }
            return mixed;
        }
    }

    /** Who the PERSONS are and whom they LOVE: what no TURN changes. */
    private static final class Folk {
        private final int[] kinds = new int[MOST_PERSONS];
        private final int[] aims = new int[MOST_PERSONS];
        private final int[] zeals = new int[MOST_PERSONS];
        private final int[] loved = new int[MOST_PERSONS];
        private final int[] firstVictims = new int[MOST_PERSONS];
        private int size;
        private int loves;

        void clear() {
            size = 0;
            loves = 0;
        }

        void join(int kind, int aim, int zeal, int victim) {
            if (size < 0 || size >= MOST_PERSONS) {
                return;
            }
            kinds[size] = kind;
            aims[size] = aim;
            zeals[size] = zeal;
            loved[size] = 0;
            firstVictims[size] = victim;
            size++;
        }

        void pair(int p, int q) {
            if (has(p) && has(q)) {
                loved[p] |= 1 << q;
                loved[q] |= 1 << p;
                loves++;
            }
        }

        boolean has(int p) {
            return p >= 0 && p < size && p < MOST_PERSONS;
        }

        int everyone() {
            return (1 << size) - 1;
        }

        int kindOf(int p) {
            return has(p) ? kinds[p] : 0;
        }

        int aimOf(int p) {
            return has(p) ? aims[p] : 0;
        }

        int zealOf(int p) {
            return has(p) ? zeals[p] : 0;
        }

        int lovedBy(int p) {
            return has(p) ? loved[p] : 0;
        }

        int firstVictimOf(int p) {
            return has(p) ? firstVictims[p] : NONE;
        }

        boolean isOf(int p, int kind) {
            int own = kindOf(p);
            return own == kind
                || (own == SWORN && kind == ZEALOT)
                || (own == LENIENT && kind == HEDGER);
        }

        /** STRENGTH against one that is no SAINT and not LOVED. */
        int power(int p) {
            int power = zealOf(p);
            if (isOf(p, ZEALOT)) {
                power += 1;
            }
            if (isOf(p, SWORN)) {
                power += 2;
            }
            if (isOf(p, HEDGER)) {
                power = power / 2;
            }
            if (isOf(p, LENIENT)) {
                power = Math.max(0, power - 1);
            }
            return power;
        }

        int against(int p, int q) {
            if (isIn(lovedBy(p), q)) {
                return 0;
            }
            int power = power(p);
            return isOf(q, SAINT) ? Math.max(0, power - 1) : power;
        }
    }

    /** Reads a TEXT as a TOWN, up to the first FAULT. */
    private static final class Reader {
        private final int[] figurePlaces = new int[MOST_PERSONS];

        /** The FAULT's place, or NONE; then the folk is as told. */
        int read(Line text, Folk folk) {
            folk.clear();
            int next = 0;
            for (int i = 0; i < text.size; i++) {
                if (i < next) {
                    continue;
                }
                int fault = readItem(text, i, folk);
                if (fault != NONE) {
                    return fault;
                }
                next = i + widthOf(text.get(i));
            }
            return folk.size < 2 ? text.size : faultOfFoes(folk);
        }

        private static int widthOf(int sign) {
            if (sign == BLANK) {
                return 1;
            }
            return sign == LOVE ? 3 : 4;
        }

        private int readItem(Line text, int i, Folk folk) {
            if (text.get(i) == BLANK) {
                return NONE;
            }
            return text.get(i) == LOVE ? readLove(text, i, folk) : readPerson(text, i, folk);
        }

        /** As items have no gaps, a place behind the last sign is the TEXT's size. */
        private int readPerson(Line text, int i, Folk folk) {
            int kind = kindBy(text.get(i));
            if (kind < 0 || folk.loves > 0 || folk.size >= MOST_PERSONS) {
                return i;
            }
            int aim = figure(text, i + 1, 1, 9);
            if (aim < 0) {
                return i + 1;
            }
            int zeal = figure(text, i + 2, 0, 5);
            if (zeal < 0) {
                return i + 2;
            }
            boolean free = text.holds(i + 3) && text.get(i + 3) == NOBODY;
            int victim = free ? NONE : figure(text, i + 3, 0, 9);
            if (!free && victim < 0) {
                return i + 3;
            }
            if (folk.size >= 0 && folk.size < MOST_PERSONS) {
                figurePlaces[folk.size] = i + 3;
            }
            folk.join(kind, aim, zeal, victim);
            return NONE;
        }

        private int readLove(Line text, int i, Folk folk) {
            if (folk.size < 2 || folk.loves >= MOST_LOVES) {
                return i;
            }
            int p = figure(text, i + 1, 0, folk.size - 1);
            if (p < 0) {
                return i + 1;
            }
            int q = figure(text, i + 2, 0, folk.size - 1);
            if (q < 0 || q == p || isIn(folk.lovedBy(p), q)) {
                return i + 2;
            }
            folk.pair(p, q);
            return NONE;
        }

        private int faultOfFoes(Folk folk) {
            int taken = 0;
            for (int p = 0; p < folk.size && p < MOST_PERSONS; p++) {
                int victim = folk.firstVictimOf(p);
                if (victim == NONE) {
                    continue;
                }
                if (victim == p || !folk.has(victim) || isIn(taken, victim)) {
                    return figurePlaces[p];
                }
                taken |= 1 << victim;
            }
            return NONE;
        }

        private static int kindBy(int sign) {
            for (int kind = 0; kind < LETTERS.length; kind++) {
                if (LETTERS[kind] == sign) {
                    return kind;
                }
            }
            return -1;
        }

        /** A figure from least to most at a place, or -1. */
        private static int figure(Line text, int i, int least, int most) {
            if (!text.holds(i)) {
                return -1;
            }
            int value = text.get(i) - NOUGHT_FIGURE;
            return value >= least && value <= most ? value : -1;
        }
    }

    /** What TURNS change: a sheet as it was ahead of each TURN; the last one is as it is now. */
    private static final class Town {
        private final int[] victims = new int[SHEETS];
        private final int[] deeds = new int[SHEETS];
        private final int[] fines = new int[SHEETS];
        private int turns;
        private boolean kept;

        void begin(Folk folk) {
            turns = 0;
            for (int p = 0; p < MOST_PERSONS; p++) {
                setVictim(p, folk.firstVictimOf(p));
                setDeeds(p, 0);
                fines[p] = 0;
            }
        }

        /** Whether a new sheet could be begun, like the one ahead. */
        boolean beginTurn() {
            if (turns < 0 || turns >= MOST_TURNS) {
                return false;
            }
            int from = turns * MOST_PERSONS;
            int to = from + MOST_PERSONS;
            System.arraycopy(victims, from, victims, to, MOST_PERSONS);
            System.arraycopy(deeds, from, deeds, to, MOST_PERSONS);
            System.arraycopy(fines, from, fines, to, MOST_PERSONS);
            turns++;
            return true;
        }

        int backTo(int n) {
            int undone = turns - n;
            turns = n;
            return undone;
        }

        void take(Town other) {
            turns = other.turns;
            System.arraycopy(other.victims, 0, victims, 0, SHEETS);
            System.arraycopy(other.deeds, 0, deeds, 0, SHEETS);
            System.arraycopy(other.fines, 0, fines, 0, SHEETS);
        }

        private int slot(int p) {
            int slot = turns * MOST_PERSONS + p;
            return slot >= 0 && slot < SHEETS ? slot : 0;
        }

        int victimOf(int p) {
            return victims[slot(p)];
        }

        int deedsOf(int p) {
            return deeds[slot(p)];
        }

        int finesOf(int p) {
            return fines[slot(p)];
        }

        void setVictim(int p, int victim) {
            victims[slot(p)] = victim;
        }

        void setDeeds(int p, int n) {
            deeds[slot(p)] = n;
        }

        void fine(int p) {
            fines[slot(p)] += 1;
        }

        int foeOf(int q) {
            for (int p = 0; p < MOST_PERSONS; p++) {
                if (q >= 0 && victimOf(p) == q) {
                    return p;
                }
            }
            return NONE;
        }

        int victimSet() {
            int set = 0;
            for (int p = 0; p < MOST_PERSONS; p++) {
                int victim = victimOf(p);
                if (victim >= 0) {
                    set |= 1 << victim;
                }
            }
            return set;
        }
    }

    /** MAPS that were sought, in the order of the VICTIMS of 0, 1, .. (nobody behind all). */
    private static final class Atlas {
        private final int[] found = new int[MOST_MAPS];
        private final int[] barred = new int[MOST_PERSONS];
        private final int[] alike = new int[SETS];
        private int number;
        private int size;

        /** All MAPS with just these VICTIMS; if no LOVE is allowed, nobody has one that it LOVES. */
        void seek(Folk folk, int victims, boolean loveAllowed) {
            number = 0;
            size = folk.size;
            for (int p = 0; p < MOST_PERSONS; p++) {
                barred[p] = 1 << p | (loveAllowed ? 0 : folk.lovedBy(p));
            }
            draw(this, 0, victims, 0);
        }

        /** A VICTIM for p and those behind it, from those that are left; p is the depth, too. */
        private static void draw(Atlas atlas, int p, int left, int map) {
            int size = atlas.size;
            if (p < 0 || p >= size || p >= MOST_PERSONS) {
                atlas.add(left, map);
                return;
            }
            int open = left & ~atlas.barred[p];
            for (int victim = 0; victim < size; victim++) {
                if (isIn(open, victim)) {
                    draw(atlas, p + 1, left & ~(1 << victim), map | victim << MAP_BITS * p);
                }
            }
            if (size - p > Integer.bitCount(left)) {
                draw(atlas, p + 1, left, map | MAP_NOBODY << MAP_BITS * p);
            }
        }

        private void add(int left, int map) {
            if (left == 0 && number >= 0 && number < MOST_MAPS) {
                found[number] = map;
                number++;
            }
        }

        int victimIn(int i, int p) {
            if (i < 0 || i >= number || i >= MOST_MAPS) {
                return NONE;
            }
            int victim = found[i] >> MAP_BITS * p & MAP_NOBODY;
            return victim == MAP_NOBODY ? NONE : victim;
        }

        /** The VICTIMS of a set by a MAP in which each PERSON has one. */
        private int victimsOf(int map, int set) {
            int victims = 0;
            for (int p = 0; p < size; p++) {
                if ((set >> p & 1) == 1) {
                    victims |= 1 << (map >> MAP_BITS * p & MAP_NOBODY);
                }
            }
            return victims;
        }

        /** MAPS by which those who THWARTED have other VICTIMS go. */
        void retain(int thwarted, int lost) {
            int stay = 0;
            for (int i = 0; i < number && i < MOST_MAPS; i++) {
                if (victimsOf(found[i], thwarted) == lost) {
                    found[stay] = found[i];
                    stay++;
                }
            }
            number = stay;
        }

        int countPair(int p, int q) {
            int pairs = 0;
            for (int i = 0; i < number; i++) {
                if (victimIn(i, p) == q) {
                    pairs++;
                }
            }
            return pairs;
        }

        int countMutual(int p, int q) {
            int pairs = 0;
            for (int i = 0; i < number; i++) {
                if (victimIn(i, p) == q && victimIn(i, q) == p) {
                    pairs++;
                }
            }
            return pairs;
        }

        /** Of MAPS that a week with this set can't tell apart, the most. */
        int mostAlike(int set) {
            Arrays.fill(alike, 0);
            int most = 0;
            for (int i = 0; i < number && i < MOST_MAPS; i++) {
                int victims = victimsOf(found[i], set);
                if (victims >= 0 && victims < SETS) {
                    alike[victims]++;
                    most = Math.max(most, alike[victims]);
                }
            }
            return most;
        }
    }

    private final Line[] rows = new Line[ROWS];
    private final Line[] texts = new Line[TEXTS];
    private final Reader reader = new Reader();
    private final Town now = new Town();
    private final Town[] shelves = new Town[SHELVES];
    private final Atlas atlas = new Atlas();
    private final int[] acts = new int[MOST_PERSONS];
    private final int[] found = new int[SIZE + 1];
    private Folk folk = new Folk();
    private Folk draft = new Folk();
    private int latestFinding;
    private int told;
    private long above;
    private long below;

    public EnemyByLot() {
        for (int r = 0; r < ROWS; r++) {
            rows[r] = new Line(ROW_PLACES);
        }
        for (int t = 0; t < TEXTS; t++) {
            texts[t] = new Line(TEXT_PLACES);
        }
        for (int k = 0; k < SHELVES; k++) {
            shelves[k] = new Town();
        }
        now.begin(folk);
        below = 1;
    }

    // ---- 1 rows, texts, towns

    public int row(int r, int n) {
        Line row = lineAt(rows, r);
        if (row == null || n > ROW_PLACES) {
            return BAD;
        }
        if (n < 0) {
            return find(SIZE);
        }
        row.renew(n, 0);
        return n;
    }

    public int lay(int r, int i, int v) {
        Line row = lineAt(rows, r);
        if (row == null) {
            return BAD;
        }
        int refusal = refusePlace(row, i);
        if (refusal != ALLOWED) {
            return refusal;
        }
        told = row.get(i);
        row.set(i, v);
        return 1;
    }

    public int at(int r, int i) {
        Line row = lineAt(rows, r);
        if (row == null) {
            return BAD;
        }
        int refusal = refusePlace(row, i);
        if (refusal != ALLOWED) {
            return refusal;
        }
        told = row.get(i);
        return 1;
    }

    public int tear(int r) {
        Line row = lineAt(rows, r);
        if (row == null) {
            return BAD;
        }
        if (row.isMissing()) {
            return find(NOTHING);
        }
        row.discard();
        return 1;
    }

    public int copy(int r, int i, int to, int j, int n) {
        Line from = lineAt(rows, r);
        Line into = lineAt(rows, to);
        if (from == null || into == null) {
            return BAD;
        }
        if (n < 0) {
            return find(SIZE);
        }
        if (from.isMissing() || into.isMissing()) {
            return find(NOTHING);
        }
        if (!from.holdsSpan(i, n) || !into.holdsSpan(j, n)) {
            return find(BEYOND);
        }
        into.take(from, i, j, n);
        return 1;
    }

    public int mean(int r) {
        Line row = lineAt(rows, r);
        if (row == null) {
            return BAD;
        }
        if (row.isMissing()) {
            return find(NOTHING);
        }
        if (row.size == 0) {
            return find(NOUGHT);
        }
        told = row.meanCut();
        return 1;
    }

    public int text(int t, int n) {
        Line text = lineAt(texts, t);
        if (text == null || n > TEXT_PLACES) {
            return BAD;
        }
        if (n < 0) {
            return find(SIZE);
        }
        text.renew(n, BLANK);
        return n;
    }

    public int put(int t, int i, int v) {
        Line text = lineAt(texts, t);
        if (text == null) {
            return BAD;
        }
        int refusal = refusePlace(text, i);
        if (refusal != ALLOWED) {
            return refusal;
        }
        int was = text.get(i);
        text.set(i, (byte) v);
        return was + 1000;
    }

    public int fault(int t) {
        Line text = lineAt(texts, t);
        if (text == null) {
            return BAD;
        }
        if (text.isMissing()) {
            return find(NOTHING);
        }
        return reader.read(text, draft);
    }

    public int town(int t) {
        Line text = lineAt(texts, t);
        if (text == null) {
            return BAD;
        }
        if (text.isMissing()) {
            return find(NOTHING);
        }
        if (reader.read(text, draft) != NONE) {
            return STATE;
        }
        Folk gone = folk;
        folk = draft;
        draft = gone;
        now.begin(folk);
        for (Town shelf : shelves) {
            shelf.kept = false;
        }
        return folk.size;
    }

    public int person(int p, int what) {
        if (!folk.has(p) || what < 0 || what >= TRAITS) {
            return BAD;
        }
        told = trait(p, what);
        return 1;
    }

    public int mark(int p, int kind) {
        if (!folk.has(p) || kind < ZEALOT || kind > LENIENT) {
            return BAD;
        }
        if (!folk.isOf(p, kind)) {
            return find(UNLIKE);
        }
        switch (kind) {
            case ZEALOT:
                return folk.power(p);
            case SAINT:
                return calmedBy(p);
            case HEDGER:
                return Integer.bitCount(folk.lovedBy(p));
            case SWORN:
                return weeksForNine(p);
            default:
                return owesDuty(p) ? 1 : 0;
        }
    }

    public int strength(int p, int q) {
        return isPair(p, q) ? folk.against(p, q) : BAD;
    }

    // ---- 2 turns

    public int week(int r) {
        Line row = lineAt(rows, r);
        if (row == null) {
            return BAD;
        }
        int refusal = refuseFolkRow(row);
        if (refusal != ALLOWED) {
            return refusal;
        }
        for (int p = 0; p < folk.size; p++) {
            if (!isAct(p, row.get(p))) {
                return find(UNLIKE);
            }
        }
        if (now.turns >= MOST_TURNS) {
            return FULL;
        }
        for (int p = 0; p < folk.size && p < MOST_PERSONS; p++) {
            acts[p] = row.get(p);
        }
        return passWeek();
    }

    public int exchange(int p, int q) {
        if (!isPair(p, q)) {
            return BAD;
        }
        int mine = now.victimOf(p);
        int other = now.victimOf(q);
        if (mine == q || other == p) {
            return STATE;
        }
        if (!now.beginTurn()) {
            return FULL;
        }
        now.setVictim(p, other);
        now.setVictim(q, mine);
        return 1;
    }

    public int undo(int n) {
        return n < 0 || n > now.turns ? BAD : now.backTo(n);
    }

    public int keep(int k) {
        Town shelf = shelfAt(k);
        if (shelf == null) {
            return BAD;
        }
        if (folk.size == 0) {
            return STATE;
        }
        shelf.take(now);
        shelf.kept = true;
        return now.turns;
    }

    public int on(int k) {
        Town shelf = shelfAt(k);
        if (shelf == null) {
            return BAD;
        }
        if (!shelf.kept) {
            return find(NOTHING);
        }
        now.take(shelf);
        return now.turns;
    }

    // ---- 3 foes

    public int rings() {
        int number = 0;
        int longest = 0;
        int seen = 0;
        for (int p = 0; p < folk.size; p++) {
            int ring = isIn(seen, p) ? 0 : ringOf(p);
            if (ring == 0) {
                continue;
            }
            seen |= ring;
            number++;
            if (Integer.bitCount(ring) > Integer.bitCount(longest)) {
                longest = ring;
            }
        }
        told = longest;
        return number;
    }

    public int allies(int p) {
        if (!folk.has(p)) {
            return BAD;
        }
        int allies = 0;
        int ally = now.foeOf(now.foeOf(p));
        for (int step = 0; step < MOST_PERSONS; step++) {
            if (ally < 0 || ally == p || isIn(allies, ally)) {
                return allies;
            }
            allies |= 1 << ally;
            ally = now.foeOf(now.foeOf(ally));
        }
        return allies;
    }

    public int safe() {
        if (folk.size == 0) {
            return STATE;
        }
        int safe = 0;
        for (int p = 0; p < folk.size; p++) {
            if (hasReached(p) || lossOf(p) == 0) {
                safe |= 1 << p;
            }
        }
        return safe;
    }

    // ---- 4 plans

    public int weeks(int p, int n) {
        if (!folk.has(p) || n < 0 || n > MOST_PACE) {
            return BAD;
        }
        return fewestWeeks(p, n);
    }

    public int thwart(int p, int weeks) {
        if (!folk.has(p) || weeks < 1 || weeks > MOST_WEEKS) {
            return BAD;
        }
        for (int n = MOST_PACE; n >= 1; n--) {
            int due = fewestWeeks(p, n);
            if (due == NONE || due > weeks) {
                return n;
            }
        }
        return NONE;
    }

    public int ways(int p, int weeks) {
        if (!folk.has(p) || weeks < 0 || weeks > MOST_ROW_WEEKS) {
            return BAD;
        }
        int ways = 0;
        int fewest = NONE;
        for (int thwarted = 0; thwarted < 1 << weeks; thwarted++) {
            if (reachesThrough(p, weeks, thwarted)) {
                continue;
            }
            ways++;
            int number = Integer.bitCount(thwarted);
            if (fewest == NONE || number < fewest) {
                fewest = number;
            }
        }
        told = fewest;
        return ways;
    }

    // ---- 5 exchanges

    public int wishes() {
        if (folk.size == 0) {
            return STATE;
        }
        int number = 0;
        int first = NONE;
        for (int p = 0; p < folk.size; p++) {
            for (int q = p + 1; q < folk.size; q++) {
                if (!isWish(p, q)) {
                    continue;
                }
                number++;
                if (first == NONE) {
                    first = 6 * p + q;
                }
            }
        }
        told = first;
        return number;
    }

    public int mildest(int r) {
        Line row = lineAt(rows, r);
        if (row == null) {
            return BAD;
        }
        if (folk.size == 0) {
            return STATE;
        }
        atlas.seek(folk, now.victimSet(), true);
        int best = 0;
        int least = strengthsIn(0);
        for (int i = 1; i < atlas.number; i++) {
            int all = strengthsIn(i);
            if (all < least) {
                least = all;
                best = i;
            }
        }
        row.renew(folk.size, NONE);
        for (int p = 0; p < folk.size; p++) {
            row.set(p, atlas.victimIn(best, p));
        }
        return least;
    }

    public int none(int r) {
        Line row = lineAt(rows, r);
        if (row == null) {
            return BAD;
        }
        int refusal = refuseFolkRow(row);
        if (refusal != ALLOWED) {
            return refusal;
        }
        if (!isMapOfNow(row)) {
            return find(UNLIKE);
        }
        for (int p = 0; p < folk.size; p++) {
            int victim = row.get(p);
            if (victim != NONE && folk.against(p, victim) > lossOf(victim)) {
                return 0;
            }
        }
        return 1;
    }

    // ---- 6 draws

    public int maps() {
        if (folk.size == 0) {
            return STATE;
        }
        atlas.seek(folk, folk.everyone(), false);
        return tell(atlas.number, 1);
    }

    public int odds(int p, int q) {
        int refusal = refuseDraw(p, q);
        return refusal != ALLOWED ? refusal : tell(atlas.countPair(p, q), atlas.number);
    }

    public int both(int p, int q) {
        int refusal = refuseDraw(p, q);
        return refusal != ALLOWED ? refusal : tell(atlas.countMutual(p, q), atlas.number);
    }

    // ---- 7 who is whose, by rows

    public int fits(int r) {
        Line row = lineAt(rows, r);
        if (row == null) {
            return BAD;
        }
        int refusal = refuseWeeks(row);
        if (refusal != ALLOWED) {
            return refusal;
        }
        seekFits(row);
        return tell(atlas.number, 1);
    }

    public int sure(int p, int r) {
        Line row = lineAt(rows, r);
        if (row == null || !folk.has(p)) {
            return BAD;
        }
        int refusal = refuseFits(row);
        if (refusal != ALLOWED) {
            return refusal;
        }
        int victim = atlas.victimIn(0, p);
        return atlas.countPair(p, victim) == atlas.number ? victim : NONE;
    }

    public int ask(int r) {
        Line row = lineAt(rows, r);
        if (row == null) {
            return BAD;
        }
        int refusal = refuseFits(row);
        if (refusal != ALLOWED) {
            return refusal;
        }
        int best = 0;
        int fewest = atlas.mostAlike(0);
        for (int set = 1; set <= folk.everyone(); set++) {
            int most = atlas.mostAlike(set);
            if (most < fewest) {
                fewest = most;
                best = set;
            }
        }
        told = fewest;
        return best;
    }

    public int lots(int n, int seed) {
        if (n < 1 || n > MOST_LOTS || seed < 1 || seed >= LOT_MODULUS) {
            return BAD;
        }
        if (folk.size == 0) {
            return STATE;
        }
        if (now.turns + n > MOST_TURNS) {
            return FULL;
        }
        long lot = seed;
        int reached = 0;
        for (int i = 0; i < n; i++) {
            for (int p = 0; p < folk.size && p < MOST_PERSONS; p++) {
                lot = lot * LOT_FACTOR % LOT_MODULUS;
                acts[p] = actByLot(p, lot);
            }
            reached += passWeek();
        }
        return reached;
    }

    // ---- 8 what is told

    public int asked() {
        return told;
    }

    public long upper() {
        return above;
    }

    public long lower() {
        return below;
    }

    public int count(int what) {
        switch (what) {
            case 0:
                return folk.size;
            case 1:
                return Integer.bitCount(now.victimSet());
            case 2:
                return folk.loves;
            case 3:
                return now.turns;
            case 4:
                return Integer.bitCount(reachedSet());
            case 5:
                return allFines();
            case 6:
                return zealots();
            case 7:
                return present(rows);
            case 8:
                return present(texts);
            case 9:
                return keptTowns();
            default:
                return BAD;
        }
    }

    public int finding() {
        return latestFinding;
    }

    public int findings(int f) {
        return f < NOTHING || f > SIZE ? BAD : found[f];
    }

    public long digest() {
        long h = 17;
        for (int what = 0; what < COUNTS; what++) {
            h = 31 * h + count(what);
        }
        for (int p = 0; p < folk.size; p++) {
            for (int what = 0; what < TRAITS; what++) {
                h = 31 * h + trait(p, what);
            }
        }
        for (Town shelf : shelves) {
            h = 31 * h + (shelf.kept ? shelf.turns : MISSING);
        }
        for (Line row : rows) {
            h = row.mixInto(h);
        }
        for (Line text : texts) {
            h = text.mixInto(h);
        }
        return h;
    }

    // ---- refusals

    private int find(int finding) {
        if (finding >= NOTHING && finding <= SIZE) {
            latestFinding = finding;
            found[finding]++;
        }
        return FINDING;
    }

    private static Line lineAt(Line[] lines, int i) {
        return i >= 0 && i < lines.length ? lines[i] : null;
    }

    private Town shelfAt(int k) {
        return k >= 0 && k < shelves.length ? shelves[k] : null;
    }

    private int refusePlace(Line line, int i) {
        if (line.isMissing()) {
            return find(NOTHING);
        }
        return line.holds(i) ? ALLOWED : find(BEYOND);
    }

    private int refuseRow(Line row) {
        if (folk.size == 0) {
            return STATE;
        }
        return row.isMissing() ? find(NOTHING) : ALLOWED;
    }

    /** A ROW that is to have a place for each PERSON. */
    private int refuseFolkRow(Line row) {
        int refusal = refuseRow(row);
        if (refusal != ALLOWED) {
            return refusal;
        }
        return row.size == folk.size ? ALLOWED : find(SIZE);
    }

    /** If it is not refused, all MAPS that can be drawn are sought. */
    private int refuseDraw(int p, int q) {
        if (!isPair(p, q)) {
            return BAD;
        }
        atlas.seek(folk, folk.everyone(), false);
        return atlas.number == 0 ? find(NOUGHT) : ALLOWED;
    }

    /** A ROW that is to have pairs of sets. */
    private int refuseWeeks(Line row) {
        int refusal = refuseRow(row);
        if (refusal != ALLOWED) {
            return refusal;
        }
        if (row.size % 2 != 0) {
            return find(SIZE);
        }
        for (int i = 0; i < row.size; i++) {
            if (row.get(i) < 0 || row.get(i) > folk.everyone()) {
                return find(UNLIKE);
            }
        }
        return ALLOWED;
    }

    /** If it is not refused, all MAPS that fit are sought. */
    private int refuseFits(Line row) {
        int refusal = refuseWeeks(row);
        if (refusal != ALLOWED) {
            return refusal;
        }
        seekFits(row);
        return atlas.number == 0 ? find(NOUGHT) : ALLOWED;
    }

    private static boolean isIn(int set, int p) {
        return p >= 0 && p < MOST_PERSONS && (set >> p & 1) == 1;
    }

    private boolean isPair(int p, int q) {
        return folk.has(p) && folk.has(q) && p != q;
    }

    private boolean isAct(int p, int act) {
        if (act == THWARTS) {
            return now.victimOf(p) != NONE;
        }
        return act == RESTS || act == DOES;
    }

    /** Whether a ROW, as long as there are PERSONS, is a MAP with just the VICTIMS of now. */
    private boolean isMapOfNow(Line row) {
        int victims = 0;
        for (int p = 0; p < folk.size; p++) {
            int victim = row.get(p);
            if (victim == NONE) {
                continue;
            }
            if (!isPair(p, victim) || isIn(victims, victim)) {
                return false;
            }
            victims |= 1 << victim;
        }
        return victims == now.victimSet();
    }

    // ---- persons

    private int trait(int p, int what) {
        switch (what) {
            case 0:
                return folk.kindOf(p);
            case 1:
                return folk.aimOf(p);
            case 2:
                return folk.zealOf(p);
            case 3:
                return now.victimOf(p);
            case 4:
                return now.foeOf(p);
            case 5:
                return now.deedsOf(p);
            case 6:
                return now.finesOf(p);
            case 7:
                return hasReached(p) ? 1 : 0;
            default:
                return folk.lovedBy(p);
        }
    }

    /** DEEDS of a REACHED AIM are never lost, so they tell it. */
    private boolean hasReached(int p) {
        return now.deedsOf(p) >= folk.aimOf(p);
    }

    private int reachedSet() {
        int set = 0;
        for (int p = 0; p < folk.size; p++) {
            if (hasReached(p)) {
                set |= 1 << p;
            }
        }
        return set;
    }

    /** Whether it is FINED for a week, begun as it is now, in which it does not THWART. */
    private boolean owesDuty(int p) {
        int victim = now.victimOf(p);
        return victim != NONE
            && !folk.isOf(p, SAINT)
            && !isIn(folk.lovedBy(p), victim)
            && !hasReached(victim);
    }

    /** How many others have less STRENGTH against one because it is a SAINT. */
    private int calmedBy(int p) {
        int calmed = 0;
        for (int q = 0; q < folk.size; q++) {
            if (q != p && !isIn(folk.lovedBy(q), p) && folk.power(q) > folk.against(q, p)) {
                calmed++;
            }
        }
        return calmed;
    }

    private int weeksForNine(int p) {
        int victim = now.victimOf(p);
        int loss = victim == NONE ? 0 : folk.against(p, victim);
        return loss <= 0 ? NONE : (9 + loss - 1) / loss;
    }

    /** The STRENGTH of its FOE; 0 if it is nobody's VICTIM. */
    private int lossOf(int p) {
        int foe = now.foeOf(p);
        return foe == NONE ? 0 : folk.against(foe, p);
    }

    // ---- turns

    /** A WEEK by acts: how many AIMS were REACHED in it. */
    private int passWeek() {
        if (!now.beginTurn()) {
            return 0;
        }
        int reached = reachedSet();
        fineIdle();
        for (int p = 0; p < folk.size && p < MOST_PERSONS; p++) {
            if (acts[p] == DOES && !isIn(reached, p)) {
                now.setDeeds(p, now.deedsOf(p) + 1);
            }
        }
        for (int p = 0; p < folk.size && p < MOST_PERSONS; p++) {
            int victim = now.victimOf(p);
            if (acts[p] == THWARTS && victim != NONE && !isIn(reached, victim)) {
                int left = now.deedsOf(victim) - folk.against(p, victim);
                now.setDeeds(victim, Math.max(0, left));
            }
        }
        return Integer.bitCount(reachedSet() & ~reached);
    }

    /** Call it ahead of DEEDS: an AIM that is REACHED in a week saves nobody in it. */
    private void fineIdle() {
        for (int p = 0; p < folk.size && p < MOST_PERSONS; p++) {
            if (acts[p] != THWARTS && owesDuty(p)) {
                now.fine(p);
            }
        }
    }

    private int actByLot(int p, long lot) {
        int act = (int) (lot / 4 % 3);
        return act == THWARTS && now.victimOf(p) == NONE ? DOES : act;
    }

    // ---- foes

    /** Who is in the ring of one (bits); 0 if it is in none. */
    private int ringOf(int p) {
        int ring = 0;
        int next = p;
        for (int step = 0; step < MOST_PERSONS; step++) {
            ring |= 1 << next;
            next = now.victimOf(next);
            if (next == p) {
                return ring;
            }
            if (next < 0) {
                return 0;
            }
        }
        return 0;
    }

    // ---- plans

    private int fewestWeeks(int p, int n) {
        int done = now.deedsOf(p);
        int loss = lossOf(p);
        if (hasReached(p)) {
            return 0;
        }
        for (int week = 1; week <= MOST_WEEKS; week++) {
            boolean thwarted = n > 0 && week % n == 0;
            done = afterWeek(done, thwarted ? loss : 0);
            if (done >= folk.aimOf(p)) {
                return week;
            }
        }
        return NONE;
    }

    private boolean reachesThrough(int p, int weeks, int thwarted) {
        int done = now.deedsOf(p);
        int loss = lossOf(p);
        for (int week = 0; week < weeks; week++) {
            if (done >= folk.aimOf(p)) {
                return true;
            }
            done = afterWeek(done, (thwarted >> week & 1) == 1 ? loss : 0);
        }
        return done >= folk.aimOf(p);
    }

    private static int afterWeek(int done, int loss) {
        return Math.max(0, done + 1 - loss);
    }

    // ---- exchanges

    private boolean isWish(int p, int q) {
        int mine = now.victimOf(p);
        int other = now.victimOf(q);
        if (mine == q || other == p) {
            return false;
        }
        int first = mine == NONE ? 0 : folk.against(q, mine) - folk.against(p, mine);
        int second = other == NONE ? 0 : folk.against(p, other) - folk.against(q, other);
        return first <= 0 && second <= 0 && first + second < 0;
    }

    /** All STRENGTHS against VICTIMS by a MAP that was sought. */
    private int strengthsIn(int i) {
        int all = 0;
        for (int p = 0; p < folk.size; p++) {
            int victim = atlas.victimIn(i, p);
            all += victim == NONE ? 0 : folk.against(p, victim);
        }
        return all;
    }

    // ---- draws

    private int tell(long upper, long lower) {
        long divisor = commonDivisor(upper, lower);
        if (divisor > 0) {
            above = upper / divisor;
            below = lower / divisor;
        }
        return 1;
    }

    /** Of numbers below a thousand it takes far fewer steps than the bound. */
    private static long commonDivisor(long a, long b) {
        long greater = a;
        long lesser = b;
        for (int step = 0; step < 100 && lesser > 0; step++) {
            long rest = greater % lesser;
            greater = lesser;
            lesser = rest;
        }
        return greater;
    }

    // ---- who is whose

    /** Call it only with a ROW that was looked at. */
    private void seekFits(Line row) {
        atlas.seek(folk, folk.everyone(), true);
        for (int i = 0; i + 1 < row.size; i += 2) {
            atlas.retain(row.get(i), row.get(i + 1));
        }
    }

    // ---- counts

    private int allFines() {
        int fines = 0;
        for (int p = 0; p < folk.size; p++) {
            fines += now.finesOf(p);
        }
        return fines;
    }

    private int zealots() {
        int zealots = 0;
        for (int p = 0; p < folk.size; p++) {
            if (folk.isOf(p, ZEALOT)) {
                zealots++;
            }
        }
        return zealots;
    }

    private static int present(Line[] lines) {
        int present = 0;
        for (Line line : lines) {
            if (!line.isMissing()) {
                present++;
            }
        }
        return present;
    }

    private int keptTowns() {
        int kept = 0;
        for (Town shelf : shelves) {
            if (shelf.kept) {
                kept++;
            }
        }
        return kept;
    }
}
