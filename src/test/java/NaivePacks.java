import java.util.ArrayList;
import java.util.Comparator;
import java.util.HashSet;
import java.util.List;
import java.util.Set;
import java.util.TreeSet;
import java.util.regex.Matcher;
import java.util.regex.Pattern;

/** The document told a second time, as plainly as the Java library lets it: what ModelTest compares with. */
final class NaivePacks {
    static final int BAD = -1, STATE = -2, FULL = -3, NONE = -4;

    /** One measured cell. */
    record Cell(int charge, int has, int group) {
        Cell in(int g) {
            return new Cell(charge, has, g);
        }
    }

    /** All that an image keeps. */
    record Image(List<Cell> cells, int k, int floor, int rate, int slack) { }

    /** A fault of a text. */
    static final class Fault extends Exception {
        private static final long serialVersionUID = 1L;
        final int number;
        final int place;

        Fault(int number, int place) {
            this.number = number;
            this.place = place;
        }
    }

    private final StringBuilder tape = new StringBuilder();
    private List<Cell> cells = new ArrayList<>();
    private int k = 2;
    private int floor = 0;
    private int rate = 10;
    private int slack = 5;
    private final Image[] images = new Image[2];
    private final Object[] sheets = new Object[4];
    private int fault = 0;
    private int torn = 0;

    // ---- the text

    int feed(int c) {
        if (c < 0 || c > 127) {
            return BAD;
        }
        return tape.length() == 160 ? FULL : tape.append((char) c).length();
    }

    int end(int n) {
        int had = tape.length();
        if (n < 0 || n > had) {
            return BAD;
        }
        tape.setLength(n);
        return had;
    }

    int text() {
        String all = tape.toString();
        tape.setLength(0);
        try {
            Image told = parse(all);
            cells = told.cells;
            k = told.k;
            floor = told.floor;
            rate = told.rate;
            slack = told.slack;
            images[0] = null;
            images[1] = null;
            put(turns());
            fault = 0;
            return cells.size();
        } catch (Fault f) {
            fault = f.number;
            return -10 - f.place;
        }
    }

    private static final Pattern TOKEN = Pattern.compile("[a-z]+|[0-9]+|;");

    private static int skip(String all, int at) {
        int to = at;
        while (to < all.length() && all.charAt(to) == ' ') {
            to++;
        }
        return to;
    }

    private static String token(String all, int at) throws Fault {
        if (at == all.length()) {
            return "";
        }
        Matcher m = TOKEN.matcher(all).region(at, all.length());
        if (!m.lookingAt() || (Character.isDigit(all.charAt(at)) && m.group().length() > 3)) {
            throw new Fault(1, at);
        }
        return m.group();
    }

    private static boolean number(String token) {
        return token.matches("[0-9]+");
    }

    private static Image parse(String all) throws Fault {
        List<Cell> got = new ArrayList<>();
        List<String> names = List.of("groups", "floor", "rate", "slack");
        int[] least = {2, 0, 1, 0};
        int[] most = {5, 999, 99, 99};
        int[] values = {2, 0, 10, 5};
        Set<String> seen = new HashSet<>();
        int at = skip(all, 0);
        for (String name = token(all, at); !name.isEmpty(); name = token(all, at)) {
            int which = names.indexOf(name);
            if (which < 0 && !name.equals("cells")) {
                throw new Fault(2, at);
            }
            if (which >= 0 && !seen.add(name)) {
                throw new Fault(4, at);
            }
            at = skip(all, at + name.length());
            String next = token(all, at);
            int many = 0;
            while (number(next) && (which < 0 || many == 0)) {
                int v = Integer.parseInt(next);
                if (which < 0 && got.size() == 16) {
                    throw new Fault(5, at);
                }
                if (which < 0 ? v == 0 : v < least[which] || v > most[which]) {
                    throw new Fault(3, at);
                }
                if (which < 0) {
                    got.add(new Cell(v, v, 0));
                } else {
                    values[which] = v;
                }
                many++;
                at = skip(all, at + next.length());
                next = token(all, at);
            }
            if (many == 0 || !next.equals(";")) {
                throw new Fault(2, at);
            }
            at = skip(all, at + 1);
        }
        return new Image(got, values[0], values[1], values[2], values[3]);
    }

    int fault() {
        return fault;
    }

    private int sum(int g) {
        return cells.stream().filter(c -> c.group == g).mapToInt(Cell::has).sum();
    }

    private int[] sums() {
        return java.util.stream.IntStream.range(0, k).map(this::sum).toArray();
    }

    private static int min(int[] row) {
        return java.util.Arrays.stream(row).min().getAsInt();
    }

    private static int max(int[] row) {
        return java.util.Arrays.stream(row).max().getAsInt();
    }

    private int spread() {
        return max(sums()) - min(sums());
    }

    private int weakest() {
        int g = 0;
        while (sum(g) > min(sums())) {
            g++;
        }
        return g;
    }

    int rule(int what) {
        int[] all = {cells.size(), k, floor, rate, slack, weakest(), min(sums()), spread(),
            cells.stream().mapToInt(Cell::has).sum(), charges()};
        return what < 0 || what >= all.length ? BAD : all[what];
    }

    private int charges() {
        return cells.stream().mapToInt(Cell::charge).sum();
    }

    private List<Integer> byCharge() {
        List<Integer> order = new ArrayList<>();
        for (int i = 0; i < cells.size(); i++) {
            order.add(i);
        }
        order.sort(Comparator.comparingInt((Integer i) -> -cells.get(i).charge));
        return order;
    }

    private boolean isCell(int i) {
        return i >= 0 && i < cells.size();
    }

    int cell(int i, int what) {
        if (!isCell(i) || what < 0 || what > 3) {
            return BAD;
        }
        Cell c = cells.get(i);
        return new int[] {c.charge, c.has, c.group, byCharge().indexOf(i)}[what];
    }

    int group(int g, int what) {
        if (g < 0 || g >= k || what < 0 || what > 4) {
            return BAD;
        }
        int many = 0;
        int strongest = NONE;
        int bits = 0;
        int above = 0;
        for (int i = cells.size() - 1; i >= 0; i--) {
            Cell c = cells.get(i);
            if (c.group == g) {
                many++;
                bits += (int) Math.pow(2, i);
                above += c.has > floor ? c.has - floor : 0;
                strongest = strongest == NONE || c.has >= cells.get(strongest).has ? i : strongest;
            }
        }
        return new int[] {sum(g), many, strongest, bits, above}[what];
    }

    // ---- ways

    private List<Integer> turns() {
        List<Integer> homes = new ArrayList<>();
        for (int i = 0; i < cells.size(); i++) {
            homes.add(i % k);
        }
        return homes;
    }

    private int[] chargeSums(List<Integer> homes) {
        int[] sums = new int[k];
        for (int i = 0; i < homes.size(); i++) {
            if (homes.get(i) != null) {
                sums[homes.get(i)] += cells.get(i).charge;
            }
        }
        return sums;
    }

    private List<Integer> weakestWay() {
        List<Integer> homes = new ArrayList<>();
        cells.forEach(c -> homes.add(null));
        for (int i : byCharge()) {
            int[] sums = chargeSums(homes);
            int g = 0;
            while (sums[g] > min(sums)) {
                g++;
            }
            homes.set(i, g);
        }
        return homes;
    }

    /** Bundles of a part in order; each a sorted set of cells. */
    private final class Part {
        final List<TreeSet<Integer>> bundles;

        Part(List<TreeSet<Integer>> unsorted) {
            bundles = new ArrayList<>(unsorted);
            bundles.sort(Comparator.comparingInt((TreeSet<Integer> b) -> -holds(b))
                .thenComparingInt(b -> b.isEmpty() ? 99 : b.first()));
        }

        int holds(TreeSet<Integer> bundle) {
            return bundle.stream().mapToInt(i -> cells.get(i).charge).sum();
        }

        int difference() {
            return holds(bundles.get(0)) - holds(bundles.get(bundles.size() - 1));
        }

        int least() {
            return bundles.stream().filter(b -> !b.isEmpty()).mapToInt(TreeSet::first).min().getAsInt();
        }
    }

    private List<Integer> differences(List<Integer> log) {
        List<Part> parts = new ArrayList<>();
        for (int i = 0; i < cells.size(); i++) {
            List<TreeSet<Integer>> alone = new ArrayList<>();
            for (int g = 0; g < k; g++) {
                alone.add(new TreeSet<>());
            }
            alone.get(0).add(i);
            parts.add(new Part(alone));
        }
        while (parts.size() > 1) {
            parts.sort(Comparator.comparingInt((Part p) -> -p.difference()).thenComparingInt(Part::least));
            Part one = parts.remove(0);
            Part other = parts.remove(0);
            log.add(100 * one.least() + other.least());
            List<TreeSet<Integer>> both = new ArrayList<>();
            for (int g = 0; g < k; g++) {
                TreeSet<Integer> joint = new TreeSet<>(one.bundles.get(g));
                joint.addAll(other.bundles.get(k - 1 - g));
                both.add(joint);
            }
            parts.add(new Part(both));
        }
        List<Integer> homes = turns();
        for (int i = 0; i < cells.size(); i++) {
            for (int g = 0; g < k; g++) {
                if (parts.get(0).bundles.get(g).contains(i)) {
                    homes.set(i, g);
                }
            }
        }
        return homes;
    }

    /** All ways, counted up as numbers of base K whose first figure is the group of cell 0. */
    private List<Integer> bestWay() {
        int n = cells.size();
        int all = (int) Math.round(Math.pow(k, n));
        int bestLeast = -1;
        int bestMost = 0;
        int best = 0;
        int[] sums = new int[k];
        for (int code = 0; code < all; code++) {
            java.util.Arrays.fill(sums, 0);
            for (int i = n - 1, rest = code; i >= 0; i--, rest /= k) {
                sums[rest % k] += cells.get(i).charge;
            }
            int least = sums[0];
            int most = sums[0];
            for (int s : sums) {
                least = Math.min(least, s);
                most = Math.max(most, s);
            }
            if (least > bestLeast || (least == bestLeast && most < bestMost)) {
                bestLeast = least;
                bestMost = most;
                best = code;
            }
        }
        List<Integer> homes = turns();
        for (int i = n - 1, rest = best; i >= 0; i--, rest /= k) {
            homes.set(i, rest % k);
        }
        return homes;
    }

    private List<Integer> way(int way) {
        switch (way) {
            case 0: return turns();
            case 1: return weakestWay();
            case 2: return differences(new ArrayList<>());
            default: return bestWay();
        }
    }

    private void put(List<Integer> homes) {
        for (int i = 0; i < cells.size(); i++) {
            cells.set(i, cells.get(i).in(homes.get(i)));
        }
    }

    private int refusal(int way) {
        return way < 0 || way > 3 ? BAD : way == 3 && cells.size() > 9 ? STATE : 0;
    }

    int take(int way) {
        if (refusal(way) != 0) {
            return refusal(way);
        }
        put(way(way));
        return spread();
    }

    int would(int way, int what) {
        if (what < 0 || what > 2) {
            return BAD;
        }
        if (refusal(way) != 0) {
            return refusal(way);
        }
        List<Integer> homes = way(way);
        int[] sums = chargeSums(homes);
        int others = 0;
        for (int i = 0; i < cells.size(); i++) {
            others += homes.get(i) == cells.get(i).group ? 0 : 1;
        }
        return new int[] {min(sums), max(sums) - min(sums), others}[what];
    }

    int where(int way, int i) {
        if (!isCell(i)) {
            return BAD;
        }
        return refusal(way) != 0 ? refusal(way) : way(way).get(i);
    }

    int bound(int what) {
        if (what < 0 || what > 2) {
            return BAD;
        }
        int bound = charges() / k;
        int reach = 0;
        for (int way = 0; way < 3; way++) {
            reach += min(chargeSums(way(way))) == bound ? 1 : 0;
        }
        List<Integer> now = new ArrayList<>();
        cells.forEach(c -> now.add(c.group));
        return new int[] {bound, bound - min(chargeSums(now)), reach}[what];
    }

    int joined(int i) {
        List<Integer> log = new ArrayList<>();
        if (i < 0) {
            return BAD;
        }
        if (!cells.isEmpty()) {
            differences(log);
        }
        return i < log.size() ? log.get(i) : NONE;
    }

    // ---- by hand

    int move(int i, int g) {
        if (!isCell(i) || g < 0 || g >= k) {
            return BAD;
        }
        return cells.set(i, cells.get(i).in(g)).group;
    }

    private void exchange(int i, int j) {
        int one = cells.get(i).group;
        int other = cells.get(j).group;
        cells.set(i, cells.get(i).in(other));
        cells.set(j, cells.get(j).in(one));
    }

    int swap(int i, int j) {
        if (!isCell(i) || !isCell(j)) {
            return BAD;
        }
        exchange(i, j);
        return spread();
    }

    int better() {
        int found = NONE;
        int most = min(sums());
        for (int i = 0; i < cells.size(); i++) {
            for (int j = i + 1; j < cells.size(); j++) {
                if (cells.get(i).group != cells.get(j).group) {
                    exchange(i, j);
                    if (min(sums()) > most) {
                        most = min(sums());
                        found = 100 * i + j;
                    }
                    exchange(i, j);
                }
            }
        }
        return found;
    }

    int add(int v) {
        if (v < 1 || v > 999) {
            return BAD;
        }
        if (cells.size() == 16) {
            return FULL;
        }
        cells.add(new Cell(v, v, weakest()));
        return cells.size();
    }

    int drop(int i) {
        if (!isCell(i)) {
            return BAD;
        }
        cells.remove(i);
        return cells.size();
    }

    int set(int i, int v) {
        if (!isCell(i) || v < 1 || v > 999) {
            return BAD;
        }
        return cells.set(i, new Cell(v, v, cells.get(i).group)).charge;
    }

    int rate(int what, int v) {
        if (what < 0 || what > 2 || v < (what == 1 ? 1 : 0) || v > (what == 0 ? 999 : 99)) {
            return BAD;
        }
        int was = rule(2 + what);
        floor = what == 0 ? v : floor;
        rate = what == 1 ? v : rate;
        slack = what == 2 ? v : slack;
        return was;
    }

    int groups(int newK) {
        if (newK < 2 || newK > 5) {
            return BAD;
        }
        int was = k;
        k = newK;
        put(turns());
        return was;
    }

    // ---- bleeding

    private boolean quietTick() {
        int[] sums = sums();
        List<Cell> then = new ArrayList<>(cells);
        for (int g = 0; g < k; g++) {
            int i = group(g, 2);
            if (i != NONE && sums[g] > min(sums) + slack && cells.get(i).has > floor) {
                Cell c = cells.get(i);
                then.set(i, new Cell(c.charge, Math.max(c.has - rate, floor), c.group));
            }
        }
        boolean quiet = then.equals(cells);
        cells = then;
        return quiet;
    }

    int bleed(int n) {
        if (n < 1 || n > 200) {
            return BAD;
        }
        for (int t = 0; t < n; t++) {
            if (quietTick()) {
                return t;
            }
        }
        return n;
    }

    int plan(int what) {
        if (what < 0 || what > 2) {
            return BAD;
        }
        List<Cell> now = cells;
        int had = rule(8);
        int[] told = {bleed(200), had - rule(8), spread()};
        cells = now;
        return told[what];
    }

    int fill() {
        int lost = rule(9) - rule(8);
        cells.replaceAll(c -> new Cell(c.charge, c.charge, c.group));
        return lost;
    }

    int draw(int seed, int n) {
        if (n < 1 || n > 16) {
            return BAD;
        }
        long state = seed;
        int came = 0;
        while (came < n && cells.size() < 16) {
            state = (state * 1103515245L + 12345L) & 0xffffffffL;
            add((int) (state / 65536 % 32768 % 200 + 50));
            came++;
        }
        return came;
    }

    // ---- images, sheets

    int keep(int i) {
        if (i < 0 || i > 1) {
            return BAD;
        }
        int was = images[i] == null ? 0 : 1;
        images[i] = new Image(List.copyOf(cells), k, floor, rate, slack);
        return was;
    }

    int back(int i) {
        if (i < 0 || i > 1) {
            return BAD;
        }
        if (images[i] == null) {
            return STATE;
        }
        cells = new ArrayList<>(images[i].cells);
        k = images[i].k;
        floor = images[i].floor;
        rate = images[i].rate;
        slack = images[i].slack;
        return cells.size();
    }

    /** Here the machine itself finds the faults, as the document tells it. */
    int sheet(int i, int lane, int n) {
        if (i < 0 || i > 3 || lane < 0 || lane > 2 || n > 40) {
            return BAD;
        }
        try {
            sheets[i] = lane == 0 ? new byte[n] : lane == 1 ? (Object) new short[n] : new int[n];
            return 1;
        } catch (NegativeArraySizeException e) {
            return -14;
        }
    }

    int lay(int i, int at, int v) {
        if (i < 0 || i > 3) {
            return BAD;
        }
        try {
            if (sheets[i] instanceof byte[] b) {
                b[at] = (byte) v;
            } else if (sheets[i] instanceof short[] s) {
                s[at] = (short) v;
            } else {
                ((int[]) sheets[i])[at] = v;
            }
            return 1;
        } catch (NullPointerException e) {
            return -11;
        } catch (ArrayIndexOutOfBoundsException e) {
            return -12;
        }
    }

    private int get(int i, int lane, int at) {
        return lane == 0 ? ((byte[]) sheets[i])[at] : lane == 1 ? ((short[]) sheets[i])[at] : ((int[]) sheets[i])[at];
    }

    int read(int i, int lane, int f, int n) {
        if (i < 0 || i > 3 || lane < 0 || lane > 2 || n < 0 || n > 20) {
            return BAD;
        }
        List<Cell> before = new ArrayList<>(cells);
        int found = 0;
        int came = 0;
        try {
            for (int at = f; came < n; came++, at += 2) {
                int who = get(i, lane, at);
                int to = get(i, lane, at + 1);
                if (move(who, to) == BAD) {
                    cells = before;
                    return -20 - came;
                }
            }
        } catch (NullPointerException e) {
            found = 1;
        } catch (ArrayIndexOutOfBoundsException e) {
            found = 2;
        } catch (ClassCastException e) {
            found = 3;
        }
        torn = found;
        return came;
    }

    int torn() {
        return torn;
    }

    int count(int what) {
        if (what < 0 || what > 5) {
            return BAD;
        }
        int empty = 0;
        for (int g = 0; g < k; g++) {
            empty += group(g, 1) == 0 ? 1 : 0;
        }
        int onSheet = sheets[0] == null ? NONE : java.lang.reflect.Array.getLength(sheets[0]);
        int bled = (int) cells.stream().filter(c -> c.has < c.charge).count();
        int kept = (images[0] == null ? 0 : 1) + (images[1] == null ? 0 : 1);
        return new int[] {kept, empty, tape.length(), onSheet, bled,
            cells.stream().mapToInt(Cell::charge).max().orElse(NONE)}[what];
    }
}
