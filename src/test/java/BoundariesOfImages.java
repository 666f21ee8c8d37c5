/** Promises 26 to 32, sentence by sentence. */
final class BoundariesOfImages {
    private static final int LOWEST = Integer.MIN_VALUE, HIGHEST = Integer.MAX_VALUE;
    private final Check check;

    BoundariesOfImages(Check check) {
        this.check = check;
    }

    void tell(Sentences s) {
        s.section("Promise 26: keep");
        s.holds("IMAGE k (0, 1) is CELLS, GROUPS, K, FLOOR, RATE, SLACK:", this::keep);
        s.holds("whether there was one (1, 0).", this::keepAnswers);
        s.holds("BAD.", this::keepBad);
        s.section("Promise 27: back");
        s.holds("All is as IMAGE k: CELLS.", this::back);
        s.holds("BAD;", this::backBad);
        s.holds("STATE: there is none.", this::backState);
        s.section("Promise 28: sheet");
        s.holds("A SHEET is a new row of CELLS 0: 1.", this::sheet);
        s.holds("BAD: also n above 40;", this::sheetBad);
        s.holds("-14 (SIZE): n below 0.", this::sheetSize);
        s.section("Promise 29: lay");
        s.holds("CELL i of a SHEET becomes v (its lowest bits): 1.", this::lay);
        s.holds("BAD: k;", this::layBad);
        s.holds("-10 less the FAULT: NULL,", this::layNull);
        s.holds("INDEX.", this::layIndex);
        s.section("Promise 30: read");
        s.holds("n (0 to 20; of 0 nothing is read) times", this::readTimes);
        s.holds("one of the pack, its GROUP are read of a SHEET taken as of a lane, two CELLS each from CELL f on,", this::readPairs);
        s.holds("one behind another as by move(): how many came.", this::readMoves);
        s.holds("What the machine refuses: those that were whole ahead came", this::readWholeAhead);
        s.holds("(its FAULT is asked by torn();", this::readFaults);
        s.holds("of n 0: 0, no FAULT, whatever the SHEET is).", this::readNone);
        s.holds("BAD: k, lane, n;", this::readBad);
        s.holds("-20 less i (from 0 on): the i-th, whole, is refused by move(): then none came;", this::readRefused);
        s.holds("the first met.", this::readFirstMet);
        s.section("Promise 31: torn");
        s.holds("The FAULT of the latest read() that answered 0 or more;", this::torn);
        s.holds("0", this::tornAtFirst);
        s.holds("(one that is refused leaves it).", this::tornIsLeft);
        s.section("Promise 32: count");
        s.holds("How many: 0 IMAGES, 1 GROUPS without CELLS, 2 bytes on THE TAPE,", this::count);
        s.holds("3 CELLS of SHEET 0 (NONE: nothing),", this::countOfSheet);
        s.holds("4 CELLS that HAVE less than their CHARGE,", this::countOfBled);
        s.holds("5 the greatest CHARGE (NONE).", this::countGreatest);
        s.holds("BAD.", this::countBad);
    }

    private static CellPacks bled() {
        CellPacks x = Check.told("groups 3;floor 1;rate 2;slack 3;cells 40 5 6;");
        x.bleed(1);
        x.move(0, 1);
        return x;
    }

    private void keep() {
        for (int k = 0; k < 2; k++) {
            CellPacks x = bled();
            String before = Picture.ofPack(x);
            x.keep(k);
            Picture.changeAll(x);
            x.back(k);
            check.dueSame("image " + k, Picture.ofPack(x), before);
        }
        CellPacks empty = new CellPacks();
        empty.keep(0);
        empty.draw(1, 16);
        empty.keep(1);
        check.due("an image of no cells", empty.back(0), 0);
        check.due("an image of sixteen", empty.back(1), 16);
    }

    private void keepAnswers() {
        CellPacks x = new CellPacks();
        check.due("the first time", x.keep(0), 0);
        check.due("the second", x.keep(0), 1);
        check.due("the other", x.keep(1), 0);
        check.due("its second", x.keep(1), 1);
        x.back(1);
        check.due("back leaves it", x.keep(1), 1);
    }

    private void keepBad() {
        CellPacks x = new CellPacks();
        check.dueEach("keep", CellPacks.BAD, x::keep, -1, 2, LOWEST, HIGHEST);
        check.due("none was kept", x.count(0), 0);
    }

    private void back() {
        CellPacks x = bled();
        x.keep(1);
        String before = Picture.ofPack(x);
        for (int times = 0; times < 2; times++) {
            Picture.changeAll(x);
            check.due("cells", x.back(1), 3);
            check.dueSame("the pack", Picture.ofPack(x), before);
        }
        x.drop(0);
        x.keep(0);
        check.due("the other image", x.back(0), 2);
        check.due("each its own", x.back(1), 3);
    }

    private void backBad() {
        CellPacks x = bled();
        x.keep(0);
        x.keep(1);
        x.add(5);
        check.dueEach("back", CellPacks.BAD, x::back, -1, 2, LOWEST, HIGHEST);
        check.due("cells", x.rule(0), 4);
    }

    private void backState() {
        CellPacks x = bled();
        check.dueEach("back", CellPacks.STATE, x::back, 0, 1);
        x.keep(1);
        check.due("the other one", x.back(0), CellPacks.STATE);
        check.due("this one", x.back(1), 3);
        check.due("cells", x.rule(0), 3);
    }

    /** Sheet k of a lane, of these numbers, on a pack of four cells by three groups. */
    private static CellPacks withRow(int k, int lane, int... row) {
        CellPacks x = Check.told("groups 3;cells 10 20 30 40;");
        x.sheet(k, lane, row.length);
        for (int i = 0; i < row.length; i++) {
            x.lay(k, i, row[i]);
        }
        return x;
    }

    private void sheet() {
        CellPacks x = withRow(0, 1, 3, 2);
        check.due("in place of a row", x.sheet(0, 2, 40), 1);
        check.due("all its pairs are 0, 0", x.read(0, 2, 0, 20), 20);
        check.dueHomes("by 0, 0", x, "0120");
        x.lay(0, 1, 1);
        check.due("of no cells", x.sheet(0, 2, 0), 1);
        check.due("and longer again", x.sheet(0, 2, 2), 1);
        check.due("the old ones do not come again", x.read(0, 2, 0, 1), 1);
        check.dueHomes("by 0, 0", x, "0120");
        check.due("the last sheet", x.sheet(3, 0, 1), 1);
    }

    private void sheetBad() {
        CellPacks x = withRow(0, 1, 3, 2);
        check.dueEach("sheet", CellPacks.BAD, k -> x.sheet(k, 0, 1), -1, 4, LOWEST, HIGHEST);
        check.dueEach("lane", CellPacks.BAD, lane -> x.sheet(0, lane, 1), -1, 3, LOWEST, HIGHEST);
        check.dueEach("n", CellPacks.BAD, n -> x.sheet(0, 1, n), 41, HIGHEST);
        check.due("the row is as it was", x.read(0, 1, 0, 1), 1);
        check.dueHomes("by 3, 2", x, "0122");
    }

    private void sheetSize() {
        CellPacks x = withRow(0, 1, 3, 2);
        check.dueEach("n", -14, n -> x.sheet(0, 2, n), -1, -41, LOWEST);
        check.due("bad ahead of it", x.sheet(4, 2, -1), CellPacks.BAD);
        check.due("bad ahead of it", x.sheet(0, 3, -1), CellPacks.BAD);
        check.due("the row is as it was", x.read(0, 1, 0, 1), 1);
        check.dueHomes("by 3, 2", x, "0122");
    }

    private void lay() {
        int[] wraps = {256, 65536, 0};
        for (int lane = 0; lane < 3; lane++) {
            CellPacks x = withRow(3, lane, 0, 0);
            check.due("the first", x.lay(3, 0, wraps[lane] + 1), 1);
            check.due("the last", x.lay(3, 1, 2 - wraps[lane]), 1);
            check.due("their lowest bits", x.read(3, lane, 0, 1), 1);
            check.dueHomes("by 1, 2", x, "0220");
        }
        CellPacks y = withRow(0, 2, 1, 2);
        y.lay(0, 0, 65537);
        check.due("an int has all", y.read(0, 2, 0, 1), -20);
    }

    private void layBad() {
        CellPacks x = withRow(0, 1, 3, 2);
        check.dueEach("sheet", CellPacks.BAD, k -> x.lay(k, 0, 0), -1, 4, LOWEST, HIGHEST);
    }

    private void layNull() {
        CellPacks x = new CellPacks();
        check.dueEach("lay on sheet", -11, k -> x.lay(k, 0, 0), 0, 1, 2, 3);
        check.dueEach("ahead of index", -11, i -> x.lay(0, i, 0), -1, 40, LOWEST, HIGHEST);
        check.due("still nothing", x.count(3), CellPacks.NONE);
    }

    private void layIndex() {
        CellPacks x = withRow(0, 1, 3, 2);
        check.dueEach("lay at", -12, i -> x.lay(0, i, 1), -1, 2, LOWEST, HIGHEST);
        check.due("the row is as it was", x.read(0, 1, 0, 1), 1);
        check.dueHomes("by 3, 2", x, "0122");
        x.sheet(0, 1, 0);
        check.dueEach("of no cells", -12, i -> x.lay(0, i, 1), -1, 0, 1);
    }

    private void readTimes() {
        CellPacks x = withRow(0, 0, new int[40]);
        x.lay(0, 38, 3);
        x.lay(0, 39, 2);
        check.due("0 times", x.read(0, 0, 0, 0), 0);
        check.due("19 times", x.read(0, 0, 0, 19), 19);
        check.dueHomes("by 0, 0", x, "0120");
        check.due("20 times", x.read(0, 0, 0, 20), 20);
        check.dueHomes("by 3, 2 at last", x, "0122");
        check.due("21 times", x.read(0, 0, 0, 21), CellPacks.BAD);
    }

    private void readPairs() {
        for (int lane = 0; lane < 3; lane++) {
            CellPacks x = withRow(2, lane, 3, 1, 2, 0);
            check.due("from 1 on", x.read(2, lane, 1, 1), 1);
            check.dueHomes("by 1, 2", x, "0220");
            check.due("from 2 on", x.read(2, lane, 2, 1), 1);
            check.dueHomes("by 2, 0", x, "0200");
            check.due("from 0 on", x.read(2, lane, 0, 1), 1);
            check.dueHomes("by 3, 1", x, "0201");
        }
    }

    private void readMoves() {
        CellPacks x = withRow(0, 1, 0, 1, 3, 2, 0, 2);
        check.due("a cell twice", x.read(0, 1, 0, 3), 3);
        check.dueHomes("the later one holds", x, "2122");
        check.due("what cells have stays", x.rule(8), 100);
    }

    private void readWholeAhead() {
        CellPacks x = withRow(0, 1, 0, 1, 3, 2, 1);
        check.due("half a pair behind two", x.read(0, 1, 0, 3), 2);
        check.dueHomes("two came", x, "1122");
        CellPacks y = withRow(0, 1, 0, 1, 3, 2);
        check.due("nothing behind two", y.read(0, 1, 0, 20), 2);
        check.dueHomes("two came", y, "1122");
        check.dueEach("none from", 0, f -> y.read(0, 1, f, 1), 3, 4, 39, 40, -1, -2, LOWEST, HIGHEST);
        check.due("none of another lane", y.read(0, 2, 0, 1), 0);
        check.due("none of nothing", y.read(1, 2, 0, 1), 0);
    }

    private void dueTorn(CellPacks x, int answer, int fault) {
        check.due("read", answer, 0);
        check.due("torn", x.torn(), fault);
    }

    private void readFaults() {
        CellPacks x = withRow(0, 1, 0, 1, 3, 2);
        dueTorn(x, x.read(1, 0, 0, 1), 1);
        dueTorn(x, x.read(0, 1, 3, 1), 2);
        dueTorn(x, x.read(0, 2, 0, 1), 3);
        dueTorn(x, x.read(0, 1, 4, 1), 2);
        dueTorn(x, x.read(0, 0, 4, 1), 3);
        dueTorn(x, x.read(0, 1, -1, 20), 2);
        dueTorn(x, x.read(1, 0, -1, 20), 1);
        check.due("two and no third", x.read(0, 1, 0, 3), 2);
        check.due("index", x.torn(), 2);
        check.due("two alone", x.read(0, 1, 0, 2), 2);
        check.due("no fault", x.torn(), 0);
    }

    private void readNone() {
        CellPacks x = withRow(0, 1, 9, 9);
        int[][] reads = {{0, 1, 0}, {0, 1, -1}, {0, 1, HIGHEST}, {0, 2, 0}, {3, 1, 0}, {3, 0, LOWEST}};
        for (int[] read : reads) {
            x.read(3, 0, 0, 1);
            check.due("a fault ahead", x.torn(), 1);
            dueTorn(x, x.read(read[0], read[1], read[2], 0), 0);
        }
    }

    private void readBad() {
        CellPacks x = withRow(0, 1, 0, 1);
        check.dueEach("sheet", CellPacks.BAD, k -> x.read(k, 1, 0, 1), -1, 4, LOWEST, HIGHEST);
        check.dueEach("lane", CellPacks.BAD, lane -> x.read(0, lane, 0, 1), -1, 3, LOWEST, HIGHEST);
        check.dueEach("n", CellPacks.BAD, n -> x.read(0, 1, 0, n), -1, 21, LOWEST, HIGHEST);
        check.due("of n 0 too", x.read(4, 1, 0, 0), CellPacks.BAD);
        check.due("of n 0 too", x.read(0, 3, 0, 0), CellPacks.BAD);
        check.dueHomes("none came", x, "0120");
    }

    private void readRefused() {
        int[][] refused = {{4, 0}, {-1, 0}, {0, 3}, {0, -1}};
        for (int[] pair : refused) {
            CellPacks first = withRow(0, 0, pair[0], pair[1], 0, 1);
            check.due("the first", first.read(0, 0, 0, 2), -20);
            check.dueHomes("none came", first, "0120");
            CellPacks second = withRow(0, 0, 0, 1, pair[0], pair[1]);
            check.due("the second", second.read(0, 0, 0, 2), -21);
            check.dueHomes("none came", second, "0120");
            check.due("the first alone", second.read(0, 0, 0, 1), 1);
            check.dueHomes("it came", second, "1120");
        }
        CellPacks last = withRow(0, 0, new int[40]);
        last.lay(0, 39, 3);
        check.due("the twentieth", last.read(0, 0, 0, 20), -39);
        CellPacks empty = new CellPacks();
        empty.sheet(0, 0, 2);
        check.due("a pack of no cells", empty.read(0, 0, 0, 1), -20);
    }

    private void readFirstMet() {
        CellPacks x = withRow(0, 1, 0, 1, 4, 0, 0, 3, 0);
        check.due("the second ahead of the third", x.read(0, 1, 0, 3), -21);
        check.due("the second ahead of the end", x.read(0, 1, 0, 20), -21);
        check.due("from 2 on it is the first", x.read(0, 1, 2, 20), -20);
        CellPacks half = withRow(0, 1, 0, 1, 4);
        check.due("half a pair is not looked at", half.read(0, 1, 0, 2), 1);
        check.dueHomes("the first came", half, "1120");
        CellPacks other = withRow(0, 1, 4, 4);
        check.due("another lane ahead of all", other.read(0, 0, 0, 1), 0);
    }

    private void torn() {
        CellPacks x = withRow(0, 1, 0, 1);
        x.read(1, 1, 0, 1);
        check.due("null", x.torn(), 1);
        x.read(0, 0, 0, 1);
        check.due("cast", x.torn(), 3);
        x.read(0, 1, 0, 2);
        check.due("index, though one came", x.torn(), 2);
        x.lay(1, 0, 0);
        x.sheet(0, 1, -1);
        check.due("faults of other calls are none of its", x.torn(), 2);
        check.due("asked again", x.torn(), 2);
    }

    private void tornAtFirst() {
        CellPacks x = new CellPacks();
        check.due("no read yet", x.torn(), 0);
        CellPacks y = withRow(0, 1, 0, 1);
        y.read(1, 1, 0, 1);
        y.read(0, 1, 0, 1);
        check.due("a whole one", y.torn(), 0);
    }

    private void tornIsLeft() {
        CellPacks x = withRow(0, 1, 4, 0, 0);
        x.read(0, 2, 0, 1);
        check.due("refused by move", x.read(0, 1, 0, 2), -20);
        check.due("left", x.torn(), 3);
        int[][] bad = {{0, 1, 21}, {0, 1, -1}, {-1, 1, 1}, {4, 1, 0}, {0, -1, 1}, {0, 3, 0}};
        for (int[] read : bad) {
            check.due("bad", x.read(read[0], read[1], 0, read[2]), CellPacks.BAD);
            check.due("left", x.torn(), 3);
        }
    }

    private void count() {
        CellPacks x = new CellPacks();
        check.dueRow("at first", x::count, 0, 2, 0);
        x.groups(5);
        x.keep(1);
        x.feed(' ');
        check.dueRow("then", x::count, 1, 5, 1);
        x.keep(0);
        x.draw(1, 16);
        for (int n = 0; n < 160; n++) {
            x.feed(' ');
        }
        check.dueRow("the most", x::count, 2, 0, 160);
        for (int i = 0; i < 16; i++) {
            x.move(i, 4);
        }
        check.due("all but one", x.count(1), 4);
    }

    private void countOfSheet() {
        CellPacks x = new CellPacks();
        x.sheet(1, 0, 5);
        check.due("nothing", x.count(3), CellPacks.NONE);
        x.sheet(0, 0, 0);
        check.due("no cells", x.count(3), 0);
        x.sheet(0, 2, 40);
        check.due("the most", x.count(3), 40);
    }

    private void countOfBled() {
        CellPacks x = Check.told("groups 3;rate 1;cells 9 1 9;");
        check.due("none", x.count(4), 0);
        x.bleed(1);
        check.due("two, by one each", x.count(4), 2);
        x.set(0, 8);
        check.due("a cell that was set has all", x.count(4), 1);
        x.fill();
        check.due("none again", x.count(4), 0);
        check.due("of no cells", new CellPacks().count(4), 0);
        CellPacks gone = Check.told("cells 1 9;");
        gone.bleed(1);
        gone.drop(1);
        check.due("one that is gone does not count", gone.count(4), 0);
        CellPacks all = new CellPacks();
        all.draw(1, 16);
        check.due("of sixteen", all.count(4), 0);
    }

    private void countGreatest() {
        CellPacks x = new CellPacks();
        check.due("of no cells", x.count(5), CellPacks.NONE);
        x.add(1);
        check.due("of one", x.count(5), 1);
        x.add(999);
        x.add(998);
        x.bleed(200);
        check.due("not what it has", x.count(5), 999);
        x.drop(1);
        check.due("of those that are left", x.count(5), 998);
        x.drop(0);
        x.drop(0);
        check.due("none is left", x.count(5), CellPacks.NONE);
    }

    private void countBad() {
        CellPacks x = new CellPacks();
        check.dueEach("count", CellPacks.BAD, x::count, -1, 6, LOWEST, HIGHEST);
    }
}
