import java.util.Arrays;

/** Packs of measured cells in groups that stand in a row; DOC.md tells what each call promises. */
public final class CellPacks {
    public static final int BAD = -1, STATE = -2, FULL = -3, NONE = -4;

    private static final int MAX_CELLS = 16;
    private static final int MIN_CHARGE = 1;
    private static final int MAX_CHARGE = 999;
    private static final int MIN_GROUPS = 2;
    private static final int MAX_GROUPS = 5;
    private static final int MAX_FLOOR = 999;
    private static final int MIN_RATE = 1;
    private static final int MAX_RATE = 99;
    private static final int MAX_SLACK = 99;
    private static final int MAX_TICKS = 200;
    private static final int IMAGES = 2;

    private static final int TURNS = 0, WEAKEST = 1, DIFFERENCES = 2, BEST = 3;
    private static final int MAX_BEST_CELLS = 9;

    private static final int SHEETS = 4;
    private static final int MAX_LANE = 2;
    private static final int MAX_SHEET_CELLS = 40;
    private static final int MAX_READ = 20;
    private static final int NO_FAULT = 0, NULL = 1, INDEX = 2, CAST = 3, SIZE = 4;

    /** Two numbers up to 99 in one answer: the first times this, and the second. */
    private static final int PAIR = 100;
    /** Answers that carry a place or a fault lie below this, clear of BAD to NONE. */
    private static final int FAULT_BASE = -10;
    private static final int REFUSED_BASE = -20;

    private final Tape tape;
    private final Pack pack;
    /** A pack to try on what may not come true: a text with a fault, ticks of a plan. */
    private final Pack draft;
    private final TextReader reader;
    private final Pack[] images;
    private final boolean[] kept;
    private final Ways ways;
    private final Sheet[] sheets;
    private int textFault;
    private int readFault;

    public CellPacks() {
        tape = new Tape();
        pack = new Pack();
        draft = new Pack();
        reader = new TextReader(tape, draft);
        images = new Pack[IMAGES];
        for (int k = 0; k < IMAGES; k++) {
            images[k] = new Pack();
        }
        kept = new boolean[IMAGES];
        ways = new Ways();
        sheets = new Sheet[SHEETS];
        for (int k = 0; k < SHEETS; k++) {
            sheets[k] = new Sheet();
        }
        textFault = NO_FAULT;
        readFault = NO_FAULT;
    }

    // ---- the text

    public int feed(int c) {
        if (!within(c, 0, 127)) {
            return BAD;
        }
        if (tape.length >= Tape.ROOM) {
            return FULL;
        }
        tape.bytes[tape.length] = (byte) c;
        tape.length++;
        return tape.length;
    }

    public int end(int n) {
        if (!within(n, 0, tape.length)) {
            return BAD;
        }
        int had = tape.length;
        tape.length = n;
        return had;
    }

    public int text() {
        reader.readAll();
        tape.length = 0;
        textFault = reader.fault;
        if (textFault != NO_FAULT) {
            return FAULT_BASE - reader.place;
        }
        pack.copyFrom(draft);
        regroup(TURNS);
        forgetImages();
        return pack.size;
    }

    public int fault() {
        return textFault;
    }

    public int rule(int what) {
        switch (what) {
            case 0: return pack.size;
            case 1: return pack.k;
            case 2: return pack.floor;
            case 3: return pack.rate;
            case 4: return pack.slack;
            case 5: return pack.weakest();
            case 6: return pack.leastSum();
            case 7: return pack.spread();
            case 8: return total(pack.has, pack.size);
            case 9: return total(pack.charge, pack.size);
            default: return BAD;
        }
    }

    public int cell(int i, int what) {
        if (!isCell(i)) {
            return BAD;
        }
        switch (what) {
            case 0: return pack.charge[i];
            case 1: return pack.has[i];
            case 2: return pack.home[i];
            case 3: return pack.rankByCharge(i);
            default: return BAD;
        }
    }

    public int group(int g, int what) {
        if (!isGroup(g)) {
            return BAD;
        }
        switch (what) {
            case 0: return pack.sumOf(g);
            case 1: return Integer.bitCount(pack.bitsOf(g));
            case 2: return pack.strongestOf(g);
            case 3: return pack.bitsOf(g);
            case 4: return pack.aboveFloor(g);
            default: return BAD;
        }
    }

    // ---- ways

    public int take(int way) {
        if (!isWay(way)) {
            return BAD;
        }
        if (!wayIsOpen(way)) {
            return STATE;
        }
        regroup(way);
        return pack.spread();
    }

    public int would(int way, int what) {
        if (!isWay(way) || !within(what, 0, 2)) {
            return BAD;
        }
        if (!wayIsOpen(way)) {
            return STATE;
        }
        ways.choose(pack, way);
        switch (what) {
            case 0: return ways.leastSum(pack);
            case 1: return ways.spread(pack);
            default: return ways.strangers(pack);
        }
    }

    public int where(int way, int i) {
        if (!isWay(way) || !isCell(i)) {
            return BAD;
        }
        if (!wayIsOpen(way)) {
            return STATE;
        }
        ways.choose(pack, way);
        return ways.homes[i];
    }

    public int bound(int what) {
        int most = total(pack.charge, pack.size) / pack.k;
        switch (what) {
            case 0: return most;
            case 1: return most - pack.leastSumOfCharges();
            case 2: return waysThatReach(most);
            default: return BAD;
        }
    }

    public int joined(int i) {
        if (i < 0) {
            return BAD;
        }
        ways.choose(pack, DIFFERENCES);
        return i < ways.differences.joins ? ways.differences.log[i] : NONE;
    }

    // ---- by hand

    public int move(int i, int g) {
        if (!isCell(i) || !isGroup(g)) {
            return BAD;
        }
        int was = pack.home[i];
        pack.home[i] = g;
        return was;
    }

    public int swap(int i, int j) {
        if (!isCell(i) || !isCell(j)) {
            return BAD;
        }
        int was = pack.home[i];
        pack.home[i] = pack.home[j];
        pack.home[j] = was;
        return pack.spread();
    }

    public int better() {
        int most = pack.leastSum();
        int found = NONE;
        for (int i = 0; i < pack.size; i++) {
            for (int j = i + 1; j < pack.size; j++) {
                int least = pack.leastSumExchanged(i, j);
                if (least > most) {
                    most = least;
                    found = PAIR * i + j;
                }
            }
        }
        return found;
    }

    public int add(int v) {
        if (!within(v, MIN_CHARGE, MAX_CHARGE)) {
            return BAD;
        }
        if (pack.size >= MAX_CELLS) {
            return FULL;
        }
        pack.append(v, pack.weakest());
        return pack.size;
    }

    public int drop(int i) {
        if (!isCell(i)) {
            return BAD;
        }
        pack.removeAt(i);
        return pack.size;
    }

    public int set(int i, int v) {
        if (!isCell(i) || !within(v, MIN_CHARGE, MAX_CHARGE)) {
            return BAD;
        }
        int was = pack.charge[i];
        pack.charge[i] = v;
        pack.has[i] = v;
        return was;
    }

    public int rate(int what, int v) {
        int was = BAD;
        if (what == 0 && within(v, 0, MAX_FLOOR)) {
            was = pack.floor;
            pack.floor = v;
        } else if (what == 1 && within(v, MIN_RATE, MAX_RATE)) {
            was = pack.rate;
            pack.rate = v;
        } else if (what == 2 && within(v, 0, MAX_SLACK)) {
            was = pack.slack;
            pack.slack = v;
        }
        return was;
    }

    public int groups(int k) {
        if (!within(k, MIN_GROUPS, MAX_GROUPS)) {
            return BAD;
        }
        int was = pack.k;
        pack.k = k;
        regroup(TURNS);
        return was;
    }

    // ---- bleeding

    public int bleed(int n) {
        return within(n, 1, MAX_TICKS) ? pack.runTicks(n) : BAD;
    }

    public int plan(int what) {
        if (!within(what, 0, 2)) {
            return BAD;
        }
        draft.copyFrom(pack);
        int ticks = draft.runTicks(MAX_TICKS);
        switch (what) {
            case 0: return ticks;
            case 1: return total(pack.has, pack.size) - total(draft.has, draft.size);
            default: return draft.spread();
        }
    }

    public int fill() {
        int lost = total(pack.charge, pack.size) - total(pack.has, pack.size);
        System.arraycopy(pack.charge, 0, pack.has, 0, pack.size);
        return lost;
    }

    public int draw(int seed, int n) {
        if (!within(n, 1, MAX_CELLS)) {
            return BAD;
        }
        int coming = Math.min(n, MAX_CELLS - pack.size);
        int state = seed;
        for (int i = 0; i < coming; i++) {
            state = state * 1103515245 + 12345;
            int got = (state >>> 16) & 0x7fff;
            pack.append(got % 200 + 50, pack.weakest());
        }
        return coming;
    }

    // ---- images, sheets

    public int keep(int k) {
        if (!isImage(k)) {
            return BAD;
        }
        int was = kept[k] ? 1 : 0;
        images[k].copyFrom(pack);
        kept[k] = true;
        return was;
    }

    public int back(int k) {
        if (!isImage(k)) {
            return BAD;
        }
        if (!kept[k]) {
            return STATE;
        }
        pack.copyFrom(images[k]);
        return pack.size;
    }

    public int sheet(int k, int lane, int n) {
        if (!isSheet(k) || !isLane(lane) || n > MAX_SHEET_CELLS) {
            return BAD;
        }
        if (n < 0) {
            return FAULT_BASE - SIZE;
        }
        sheets[k].renew(lane, n);
        return 1;
    }

    public int lay(int k, int i, int v) {
        if (!isSheet(k)) {
            return BAD;
        }
        int fault = sheets[k].putAt(i, v);
        return fault == NO_FAULT ? 1 : FAULT_BASE - fault;
    }

    public int read(int k, int lane, int f, int n) {
        if (!isSheet(k) || !isLane(lane) || !within(n, 0, MAX_READ)) {
            return BAD;
        }
        Sheet from = sheets[k];
        int whole = from.wholePairs(lane, f, n);
        for (int i = 0; i < whole; i++) {
            if (!isCell(from.row[f + 2 * i]) || !isGroup(from.row[f + 2 * i + 1])) {
                return REFUSED_BASE - i;
            }
        }
        for (int i = 0; i < whole; i++) {
            pack.home[from.row[f + 2 * i]] = from.row[f + 2 * i + 1];
        }
        readFault = whole == n ? NO_FAULT : from.faultAs(lane);
        return whole;
    }

    public int torn() {
        return readFault;
    }

    public int count(int what) {
        switch (what) {
            case 0: return keptImages();
            case 1: return pack.emptyGroups();
            case 2: return tape.length;
            case 3: return sheets[0].lane == Sheet.NOTHING ? NONE : sheets[0].size;
            case 4: return pack.bledCells();
            case 5: return pack.greatestCharge();
            default: return BAD;
        }
    }

    // ---- what the calls share

    private static boolean within(int v, int low, int high) {
        return v >= low && v <= high;
    }

    private boolean isCell(int i) {
        return within(i, 0, pack.size - 1);
    }

    private boolean isGroup(int g) {
        return within(g, 0, pack.k - 1);
    }

    private static boolean isWay(int way) {
        return within(way, TURNS, BEST);
    }

    private boolean wayIsOpen(int way) {
        return way != BEST || pack.size <= MAX_BEST_CELLS;
    }

    private static boolean isImage(int k) {
        return within(k, 0, IMAGES - 1);
    }

    private static boolean isSheet(int k) {
        return within(k, 0, SHEETS - 1);
    }

    private static boolean isLane(int lane) {
        return within(lane, 0, MAX_LANE);
    }

    private void regroup(int way) {
        ways.choose(pack, way);
        System.arraycopy(ways.homes, 0, pack.home, 0, pack.size);
    }

    private int waysThatReach(int most) {
        int reach = 0;
        for (int way = TURNS; way < BEST; way++) {
            ways.choose(pack, way);
            if (ways.leastSum(pack) >= most) {
                reach++;
            }
        }
        return reach;
    }

    private void forgetImages() {
        for (int k = 0; k < IMAGES; k++) {
            kept[k] = false;
        }
    }

    private int keptImages() {
        int n = 0;
        for (int k = 0; k < IMAGES; k++) {
            if (kept[k]) {
                n++;
            }
        }
        return n;
    }

    private static int total(int[] values, int n) {
        int sum = 0;
        for (int i = 0; i < n; i++) {
            sum += values[i];
        }
        return sum;
    }

    /** Sums of the first n values by their homes. */
    private static void sumUp(int[] values, int[] homes, int n, int[] sums) {
        Arrays.fill(sums, 0);
        for (int i = 0; i < n; i++) {
            sums[homes[i]] += values[i];
        }
    }

    private static int firstLeast(int[] sums, int k) {
        int at = 0;
        for (int g = 1; g < k; g++) {
            if (sums[g] < sums[at]) {
                at = g;
            }
        }
        return at;
    }

    private static int greatest(int[] sums, int k) {
        int most = sums[0];
        for (int g = 1; g < k; g++) {
            most = Math.max(most, sums[g]);
        }
        return most;
    }

    /** Cells, their groups and the rules of bleeding: what an image keeps. */
    private static final class Pack {
        private final int[] charge = new int[MAX_CELLS];
        private final int[] has = new int[MAX_CELLS];
        private final int[] home = new int[MAX_CELLS];
        /** Worked out anew by each call that needs it, so that no change has to mend it. */
        private final int[] sums = new int[MAX_GROUPS];
        private int size;
        private int k;
        private int floor;
        private int rate;
        private int slack;

        private Pack() {
            reset();
        }

        /** As at first. */
        private void reset() {
            size = 0;
            k = MIN_GROUPS;
            floor = 0;
            rate = 10;
            slack = 5;
        }

        private void copyFrom(Pack other) {
            System.arraycopy(other.charge, 0, charge, 0, MAX_CELLS);
            System.arraycopy(other.has, 0, has, 0, MAX_CELLS);
            System.arraycopy(other.home, 0, home, 0, MAX_CELLS);
            size = other.size;
            k = other.k;
            floor = other.floor;
            rate = other.rate;
            slack = other.slack;
        }

        private void append(int v, int g) {
            if (size < MAX_CELLS) {
                charge[size] = v;
                has[size] = v;
                home[size] = g;
                size++;
            }
        }

        private void removeAt(int i) {
            for (int j = i + 1; j < size; j++) {
                charge[j - 1] = charge[j];
                has[j - 1] = has[j];
                home[j - 1] = home[j];
            }
            size--;
        }

        private int sumOf(int g) {
            sumUp(has, home, size, sums);
            return sums[g];
        }

        private int weakest() {
            sumUp(has, home, size, sums);
            return firstLeast(sums, k);
        }

        private int leastSum() {
            return sums[weakest()];
        }

        private int leastSumOfCharges() {
            sumUp(charge, home, size, sums);
            return sums[firstLeast(sums, k)];
        }

        private int spread() {
            int least = leastSum();
            return greatest(sums, k) - least;
        }

        /** An exchange inside a group leaves the sums, so it is never found better. */
        private int leastSumExchanged(int i, int j) {
            sumUp(has, home, size, sums);
            sums[home[i]] += has[j] - has[i];
            sums[home[j]] += has[i] - has[j];
            return sums[firstLeast(sums, k)];
        }

        private int rankByCharge(int i) {
            int ahead = 0;
            for (int j = 0; j < size; j++) {
                if (charge[j] > charge[i] || (charge[j] == charge[i] && j < i)) {
                    ahead++;
                }
            }
            return ahead;
        }

        private int bitsOf(int g) {
            int bits = 0;
            for (int i = 0; i < size; i++) {
                if (home[i] == g) {
                    bits |= 1 << i;
                }
            }
            return bits;
        }

        private int strongestOf(int g) {
            int at = NONE;
            for (int i = 0; i < size; i++) {
                if (home[i] == g && (at == NONE || has[i] > has[at])) {
                    at = i;
                }
            }
            return at;
        }

        private int aboveFloor(int g) {
            int above = 0;
            for (int i = 0; i < size; i++) {
                if (home[i] == g) {
                    above += Math.max(0, has[i] - floor);
                }
            }
            return above;
        }

        private int emptyGroups() {
            int n = 0;
            for (int g = 0; g < k; g++) {
                if (bitsOf(g) == 0) {
                    n++;
                }
            }
            return n;
        }

        private int bledCells() {
            int n = 0;
            for (int i = 0; i < size; i++) {
                if (has[i] < charge[i]) {
                    n++;
                }
            }
            return n;
        }

        private int greatestCharge() {
            int most = NONE;
            for (int i = 0; i < size; i++) {
                most = Math.max(most, charge[i]);
            }
            return most;
        }

        private int runTicks(int most) {
            int ticks = 0;
            while (ticks < most && tickLoses()) {
                ticks++;
            }
            return ticks;
        }

        /** One tick; false if it was quiet. */
        private boolean tickLoses() {
            int limit = leastSum() + slack;
            boolean loses = false;
            for (int g = 0; g < k; g++) {
                if (sums[g] > limit && strongestLoses(g)) {
                    loses = true;
                }
            }
            return loses;
        }

        private boolean strongestLoses(int g) {
            int i = strongestOf(g);
            if (i == NONE || has[i] <= floor) {
                return false;
            }
            has[i] = Math.max(floor, has[i] - rate);
            return true;
        }
    }

    /** Puts the cells of a pack into groups by a way, beside the pack: the pack stays as it is. */
    private static final class Ways {
        private final int[] homes = new int[MAX_CELLS];
        private final int[] sums = new int[MAX_GROUPS];
        private final int[] order = new int[MAX_CELLS];
        private final Differences differences = new Differences();
        private final BestSearch best = new BestSearch();

        private void choose(Pack p, int way) {
            switch (way) {
                case WEAKEST:
                    byWeakest(p);
                    break;
                case DIFFERENCES:
                    differences.chooseHomes(p, homes);
                    break;
                case BEST:
                    best.chooseHomes(p, homes);
                    break;
                default:
                    byTurns(p);
                    break;
            }
        }

        private void byTurns(Pack p) {
            for (int i = 0; i < p.size; i++) {
                homes[i] = i % p.k;
            }
        }

        private void byWeakest(Pack p) {
            for (int i = 0; i < p.size; i++) {
                order[p.rankByCharge(i)] = i;
            }
            Arrays.fill(sums, 0);
            for (int r = 0; r < p.size; r++) {
                int i = order[r];
                homes[i] = firstLeast(sums, p.k);
                sums[homes[i]] += p.charge[i];
            }
        }

        private int leastSum(Pack p) {
            sumUp(p.charge, homes, p.size, sums);
            return sums[firstLeast(sums, p.k)];
        }

        private int spread(Pack p) {
            int least = leastSum(p);
            return greatest(sums, p.k) - least;
        }

        private int strangers(Pack p) {
            int n = 0;
            for (int i = 0; i < p.size; i++) {
                if (homes[i] != p.home[i]) {
                    n++;
                }
            }
            return n;
        }
    }

    /** Way 2. A part stands in the rows of its least cell, so the first of alike parts is the due one. */
    private static final class Differences {
        private final int[][] held = new int[MAX_CELLS][MAX_GROUPS];
        private final int[][] cells = new int[MAX_CELLS][MAX_GROUPS];
        private final boolean[] gone = new boolean[MAX_CELLS];
        private final int[] log = new int[MAX_CELLS];
        private int joins = 0;
        private int size = 0;
        private int k = MIN_GROUPS;

        private void chooseHomes(Pack p, int[] homes) {
            begin(p);
            for (int left = size; left > 1; left--) {
                joinTwo();
            }
            for (int i = 0; i < size; i++) {
                homes[i] = bundleOf(i);
            }
        }

        private void begin(Pack p) {
            size = p.size;
            k = p.k;
            joins = 0;
            for (int i = 0; i < size; i++) {
                Arrays.fill(held[i], 0);
                Arrays.fill(cells[i], 0);
                held[i][0] = p.charge[i];
                cells[i][0] = 1 << i;
                gone[i] = false;
            }
        }

        private void joinTwo() {
            int first = widestBut(NONE);
            int second = widestBut(first);
            if (first == NONE || second == NONE) {
                return;
            }
            log[joins] = PAIR * first + second;
            joins++;
            merge(Math.min(first, second), Math.max(first, second));
        }

        private int widestBut(int other) {
            int at = NONE;
            for (int i = 0; i < size; i++) {
                if (!gone[i] && i != other && (at == NONE || width(i) > width(at))) {
                    at = i;
                }
            }
            return at;
        }

        private int width(int part) {
            return held[part][0] - held[part][k - 1];
        }

        /** Which of the two was the wider makes no odds: the same bundles meet, and are put in order. */
        private void merge(int into, int from) {
            for (int g = 0; g < k; g++) {
                held[into][g] += held[from][k - 1 - g];
                cells[into][g] |= cells[from][k - 1 - g];
            }
            gone[from] = true;
            for (int g = 1; g < k; g++) {
                for (int h = g; h > 0 && isAhead(into, h, h - 1); h--) {
                    exchange(held[into], h);
                    exchange(cells[into], h);
                }
            }
        }

        /** Charges are above 0, so empty bundles come last; of alike ones the lowest bit tells the least cell. */
        private boolean isAhead(int part, int g, int h) {
            if (held[part][g] != held[part][h]) {
                return held[part][g] > held[part][h];
            }
            int mine = cells[part][g];
            int other = cells[part][h];
            return (mine & -mine) < (other & -other);
        }

        private static void exchange(int[] row, int h) {
            int was = row[h];
            row[h] = row[h - 1];
            row[h - 1] = was;
        }

        /** The last part holds cell 0, so it stands in row 0. */
        private int bundleOf(int i) {
            for (int g = 0; g < k; g++) {
                if ((cells[0][g] & (1 << i)) != 0) {
                    return g;
                }
            }
            return 0;
        }
    }

    /**
     * Way 3. Groups differ by number alone, so the first of alike ways opens them in their order:
     * a cell goes into a group that has cells or into the first that has none.
     */
    private static final class BestSearch {
        private final int[] trial = new int[MAX_CELLS];
        private final int[] found = new int[MAX_CELLS];
        private final int[] sums = new int[MAX_GROUPS];
        private int leastFound = 0;
        private int greatestFound = 0;

        private void chooseHomes(Pack p, int[] homes) {
            if (p.size > MAX_BEST_CELLS) {
                return;
            }
            Arrays.fill(sums, 0);
            leastFound = NONE;
            greatestFound = NONE;
            tryCell(p, 0, 0, total(p.charge, p.size));
            System.arraycopy(found, 0, homes, 0, p.size);
        }

        private void tryCell(Pack p, int i, int opened, int left) {
            if (i >= p.size || i >= MAX_BEST_CELLS) {
                judge(p);
                return;
            }
            if (lacking(p.k) > left) {
                return;
            }
            int last = Math.min(opened, p.k - 1);
            for (int g = 0; g <= last; g++) {
                trial[i] = g;
                sums[g] += p.charge[i];
                tryCell(p, i + 1, Math.max(opened, g + 1), left - p.charge[i]);
                sums[g] -= p.charge[i];
            }
        }

        /** What the groups still need if none shall end below the least sum found. */
        private int lacking(int k) {
            int lack = 0;
            for (int g = 0; g < k; g++) {
                lack += Math.max(0, leastFound - sums[g]);
            }
            return lack;
        }

        private void judge(Pack p) {
            int least = sums[firstLeast(sums, p.k)];
            int most = greatest(sums, p.k);
            if (least > leastFound || (least == leastFound && most < greatestFound)) {
                leastFound = least;
                greatestFound = most;
                System.arraycopy(trial, 0, found, 0, p.size);
            }
        }
    }

    /** The bytes that wait to be read as a text. */
    private static final class Tape {
        private static final int ROOM = 160;
        private final byte[] bytes = new byte[ROOM];
        private int length = 0;

        /** The byte at a place; behind the last one, one that is part of no token. */
        private int byteAt(int place) {
            return place >= 0 && place < length ? bytes[place] : 0;
        }

        private boolean spells(String name, int from, int to) {
            if (to - from != name.length()) {
                return false;
            }
            for (int i = 0; i < name.length(); i++) {
                if (byteAt(from + i) != name.charAt(i)) {
                    return false;
                }
            }
            return true;
        }
    }

    /** Reads a text token by token up to its end or its first fault. */
    private static final class TextReader {
        private static final int NO_TOKEN = 1, MISPLACED = 2, OUT_OF_BOUNDS = 3, TWICE = 4, TOO_MANY = 5;
        private static final int NAME = 0, NUMBER = 1, SIGN = 2, END = 3;
        private static final int GROUPS_LINE = 0, CELLS_LINE = 1, FLOOR_LINE = 2, RATE_LINE = 3, SLACK_LINE = 4;
        private static final int NO_LINE = 5;
        private static final int MAX_FIGURES = 3;

        private final Tape tape;
        private final Pack into;
        private int fault = NO_FAULT;
        private int place = 0;
        /** The token at hand: its kind, its first byte, the byte behind it, a number's value. */
        private int kind = END;
        private int start = 0;
        private int next = 0;
        private int value = 0;
        /** Lines met, a bit for each kind. */
        private int met = 0;

        private TextReader(Tape source, Pack target) {
            tape = source;
            into = target;
        }

        private void readAll() {
            into.reset();
            fault = NO_FAULT;
            place = 0;
            next = 0;
            met = 0;
            boolean more = true;
            for (int lines = 0; more && lines <= Tape.ROOM; lines++) {
                more = readLine();
            }
        }

        /** Whether a whole line was read, so that another may follow. */
        private boolean readLine() {
            if (!nextToken() || kind == END) {
                return false;
            }
            int line = kind == NAME ? lineNamed() : NO_LINE;
            if (line == NO_LINE) {
                return fail(MISPLACED);
            }
            if (line == CELLS_LINE) {
                return readCells();
            }
            if ((met & (1 << line)) != 0) {
                return fail(TWICE);
            }
            met |= 1 << line;
            return readSetting(line);
        }

        private int lineNamed() {
            for (int line = GROUPS_LINE; line < NO_LINE; line++) {
                if (tape.spells(nameOf(line), start, next)) {
                    return line;
                }
            }
            return NO_LINE;
        }

        private static String nameOf(int line) {
            switch (line) {
                case GROUPS_LINE: return "groups";
                case CELLS_LINE: return "cells";
                case FLOOR_LINE: return "floor";
                case RATE_LINE: return "rate";
                default: return "slack";
            }
        }

        private boolean readSetting(int line) {
            if (!nextToken()) {
                return false;
            }
            if (kind != NUMBER) {
                return fail(MISPLACED);
            }
            if (!within(value, lowestOf(line), highestOf(line))) {
                return fail(OUT_OF_BOUNDS);
            }
            putSetting(line);
            return nextToken() && (kind == SIGN || fail(MISPLACED));
        }

        private static int lowestOf(int line) {
            switch (line) {
                case GROUPS_LINE: return MIN_GROUPS;
                case RATE_LINE: return MIN_RATE;
                default: return 0;
            }
        }

        private static int highestOf(int line) {
            switch (line) {
                case GROUPS_LINE: return MAX_GROUPS;
                case FLOOR_LINE: return MAX_FLOOR;
                case RATE_LINE: return MAX_RATE;
                default: return MAX_SLACK;
            }
        }

        private void putSetting(int line) {
            switch (line) {
                case GROUPS_LINE:
                    into.k = value;
                    break;
                case FLOOR_LINE:
                    into.floor = value;
                    break;
                case RATE_LINE:
                    into.rate = value;
                    break;
                default:
                    into.slack = value;
                    break;
            }
        }

        private boolean readCells() {
            for (int told = 0; told <= MAX_CELLS; told++) {
                if (!nextToken()) {
                    return false;
                }
                if (kind == SIGN && told > 0) {
                    return true;
                }
                if (kind != NUMBER) {
                    return fail(MISPLACED);
                }
                if (into.size >= MAX_CELLS) {
                    return fail(TOO_MANY);
                }
                if (!within(value, MIN_CHARGE, MAX_CHARGE)) {
                    return fail(OUT_OF_BOUNDS);
                }
                into.append(value, 0);
            }
            return fail(TOO_MANY);
        }

        /** Whether there is a token (the end is one); else the fault is told. */
        private boolean nextToken() {
            start = next;
            while (start < tape.length && tape.byteAt(start) == ' ') {
                start++;
            }
            next = start;
            if (start >= tape.length) {
                kind = END;
                return true;
            }
            int first = tape.byteAt(start);
            if (first == ';') {
                kind = SIGN;
                next++;
                return true;
            }
            if (within(first, 'a', 'z')) {
                kind = NAME;
                passRun('a', 'z');
                return true;
            }
            if (within(first, '0', '9')) {
                kind = NUMBER;
                passRun('0', '9');
                return takeValue();
            }
            return fail(NO_TOKEN);
        }

        private void passRun(int low, int high) {
            while (next < tape.length && within(tape.byteAt(next), low, high)) {
                next++;
            }
        }

        private boolean takeValue() {
            value = 0;
            if (next - start > MAX_FIGURES) {
                return fail(NO_TOKEN);
            }
            for (int at = start; at < next; at++) {
                value = 10 * value + tape.byteAt(at) - '0';
            }
            return true;
        }

        /** Always false: what was to be read is not there. */
        private boolean fail(int number) {
            fault = number;
            place = start;
            return false;
        }
    }

    /** A row of numbers of one lane, or nothing. */
    private static final class Sheet {
        private static final int NOTHING = -1;
        private static final int BYTES = 0, SHORTS = 1;
        private final int[] row = new int[MAX_SHEET_CELLS];
        private int lane = NOTHING;
        private int size = 0;

        private void renew(int newLane, int newSize) {
            lane = newLane;
            size = newSize;
            Arrays.fill(row, 0);
        }

        private int putAt(int i, int v) {
            if (lane == NOTHING) {
                return NULL;
            }
            if (!within(i, 0, size - 1)) {
                return INDEX;
            }
            row[i] = lane == BYTES ? (byte) v : lane == SHORTS ? (short) v : v;
            return NO_FAULT;
        }

        /** How many of n pairs from cell f on can be read as of a lane. */
        private int wholePairs(int asLane, int f, int n) {
            if (lane != asLane || !within(f, 0, size - 1)) {
                return 0;
            }
            return Math.min(n, (size - f) / 2);
        }

        /** Why a reading as of a lane stopped. */
        private int faultAs(int asLane) {
            if (lane == NOTHING) {
                return NULL;
            }
            return lane == asLane ? INDEX : CAST;
        }
    }
}
