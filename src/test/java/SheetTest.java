/** Promises 26 to 32: keep, back, sheet, lay, read, torn, count. */
final class SheetTest {
    private static final Check CHECK = new Check("SheetTest");

    public static void main(String[] args) {
        images();
        imagesAreApart();
        sheets();
        lays();
        lanes();
        reads();
        readsThatTear();
        readsThatAreRefused();
        readsOfNothing();
        counts();
        CHECK.finish();
    }

    private static void images() {
        CellPacks x = Check.told("groups 3;floor 1;rate 2;slack 3;cells 40 5 6;");
        x.bleed(1);
        x.move(0, 1);
        CHECK.due("keep -1", x.keep(-1), CellPacks.BAD);
        CHECK.due("keep 2", x.keep(2), CellPacks.BAD);
        CHECK.due("back -1", x.back(-1), CellPacks.BAD);
        CHECK.due("back 2", x.back(2), CellPacks.BAD);
        CHECK.due("back of none", x.back(1), CellPacks.STATE);
        CHECK.due("keep", x.keep(1), 0);
        CHECK.due("back of the other", x.back(0), CellPacks.STATE);
        Picture.changeAll(x);
        CHECK.due("back", x.back(1), 3);
        int[] rules = {3, 3, 1, 2, 3, 0, 0, 43, 49, 51};
        for (int what = 0; what < rules.length; what++) {
            CHECK.due("back: rule " + what, x.rule(what), rules[what]);
        }
        CHECK.dueHomes("back", x, "112");
        CHECK.due("back: charge", x.cell(0, 0), 40);
        CHECK.due("back: what it has", x.cell(0, 1), 38);
        x.drop(0);
        CHECK.due("the image stays", x.back(1), 3);
        CHECK.due("keep again", x.keep(1), 1);
    }

    private static void imagesAreApart() {
        CellPacks x = Check.told("cells 1 2 3;");
        x.keep(0);
        x.add(4);
        x.keep(1);
        x.add(5);
        CHECK.due("image 0", x.back(0), 3);
        CHECK.due("image 1", x.back(1), 4);
        x.set(0, 99);
        CHECK.due("image 0 again", x.back(0), 3);
        CHECK.due("its first cell", x.cell(0, 0), 1);
        x.drop(0);
        CHECK.due("keep in place of it", x.keep(0), 1);
        CHECK.due("image 0 is the new one", x.back(0), 2);
        CHECK.due("image 1 is as it was", x.back(1), 4);
    }

    private static void sheets() {
        CellPacks x = new CellPacks();
        CHECK.due("sheet -1", x.sheet(-1, 0, 1), CellPacks.BAD);
        CHECK.due("sheet 4", x.sheet(4, 0, 1), CellPacks.BAD);
        CHECK.due("lane -1", x.sheet(0, -1, 1), CellPacks.BAD);
        CHECK.due("lane 3", x.sheet(0, 3, 1), CellPacks.BAD);
        CHECK.due("41 cells", x.sheet(0, 0, 41), CellPacks.BAD);
        CHECK.due("-1 cells", x.sheet(0, 0, -1), -14);
        CHECK.due("lowest cells", x.sheet(3, 2, Integer.MIN_VALUE), -14);
        CHECK.due("bad ahead of size", x.sheet(4, 0, -1), CellPacks.BAD);
        CHECK.due("bad lane ahead of size", x.sheet(0, 3, -1), CellPacks.BAD);
        CHECK.due("still nothing", x.count(3), CellPacks.NONE);
        CHECK.due("40 cells", x.sheet(0, 0, 40), 1);
        CHECK.due("they are there", x.count(3), 40);
        CHECK.due("refused: they stay", x.sheet(0, 1, -1), -14);
        CHECK.due("refused: they stay", x.count(3), 40);
        CHECK.due("0 cells", x.sheet(0, 2, 0), 1);
        CHECK.due("a row of none is not nothing", x.count(3), 0);
        CHECK.due("sheet 3", x.sheet(3, 2, 1), 1);
    }

    private static void lays() {
        CellPacks x = new CellPacks();
        CHECK.due("lay on -1", x.lay(-1, 0, 0), CellPacks.BAD);
        CHECK.due("lay on 4", x.lay(4, 0, 0), CellPacks.BAD);
        CHECK.due("lay on nothing", x.lay(2, -1, 0), -11);
        x.sheet(2, 1, 3);
        CHECK.due("lay at -1", x.lay(2, -1, 0), -12);
        CHECK.due("lay at 3 of 3", x.lay(2, 3, 0), -12);
        CHECK.due("lay at 2 of 3", x.lay(2, 2, 0), 1);
        CHECK.due("lay at the highest", x.lay(2, Integer.MAX_VALUE, 0), -12);
        CHECK.due("lay at the lowest", x.lay(2, Integer.MIN_VALUE, 0), -12);
        x.sheet(2, 1, 0);
        CHECK.due("lay at 0 of 0", x.lay(2, 0, 0), -12);
    }

    /** 1 and a multiple of 256, 65536: what is left of it tells the lane's width, its sign too. */
    private static void lanes() {
        CellPacks x = Check.told("cells 5 6 7;");
        int[] wide = {256, 65536};
        for (int lane = 0; lane < 3; lane++) {
            x.sheet(0, lane, 2);
            for (int w = 0; w < 2; w++) {
                x.lay(0, 0, wide[w] + 1);
                boolean cut = lane <= w;
                CHECK.due("lane " + lane + " of 1 and " + wide[w], x.read(0, lane, 0, 1), cut ? 1 : -20);
            }
        }
        x.sheet(0, 0, 2);
        x.lay(0, 0, 255);
        CHECK.due("a byte of 255 is -1", x.read(0, 0, 0, 1), -20);
        x.sheet(0, 1, 2);
        x.move(0, 1);
        CHECK.due("a new row is of 0", x.read(0, 1, 0, 1), 1);
        CHECK.dueHomes("cell 0 into group 0, as cell 1 ahead", x, "000");
        x.lay(0, 0, 65535);
        CHECK.due("a short of 65535 is -1", x.read(0, 1, 0, 1), -20);
    }

    private static CellPacks withPairs(int lane, int size, int... numbers) {
        CellPacks x = Check.told("groups 3;cells 10 20 30 40;");
        x.sheet(1, lane, size);
        for (int i = 0; i < numbers.length; i++) {
            x.lay(1, i, numbers[i]);
        }
        return x;
    }

    private static void reads() {
        CellPacks x = withPairs(2, 8, 0, 2, 1, 2, 3, 1, 0, 1);
        CHECK.due("read of sheet -1", x.read(-1, 2, 0, 1), CellPacks.BAD);
        CHECK.due("read of sheet 4", x.read(4, 2, 0, 1), CellPacks.BAD);
        CHECK.due("read of lane -1", x.read(1, -1, 0, 1), CellPacks.BAD);
        CHECK.due("read of lane 3", x.read(1, 3, 0, 0), CellPacks.BAD);
        CHECK.due("read -1 times", x.read(1, 2, 0, -1), CellPacks.BAD);
        CHECK.due("read 21 times", x.read(1, 2, 0, 21), CellPacks.BAD);
        CHECK.dueHomes("nothing was read", x, "0120");
        CHECK.due("read three", x.read(1, 2, 0, 3), 3);
        CHECK.dueHomes("three came", x, "2221");
        CHECK.due("read all, a cell twice", x.read(1, 2, 0, 4), 4);
        CHECK.dueHomes("the last one holds", x, "1221");
        CHECK.due("read from 1 on", x.read(1, 2, 1, 1), 1);
        CHECK.dueHomes("cell 2 into 1", x, "1211");
        CellPacks full = withPairs(0, 40);
        CHECK.due("read 20 times", full.read(1, 0, 0, 20), 20);
        CHECK.due("whole", full.torn(), 0);
    }

    private static void readsThatTear() {
        CellPacks x = withPairs(1, 5, 0, 2, 1, 2, 3);
        CHECK.due("half a pair is left", x.read(1, 1, 0, 3), 2);
        CHECK.due("index", x.torn(), 2);
        CHECK.dueHomes("two came", x, "2220");
        CHECK.due("whole", x.read(1, 1, 0, 2), 2);
        CHECK.due("no fault", x.torn(), 0);
        CHECK.due("from 4 on", x.read(1, 1, 4, 1), 0);
        CHECK.due("index", x.torn(), 2);
        int[] outside = {5, 6, 41, -1, -2, Integer.MAX_VALUE, Integer.MIN_VALUE};
        for (int f : outside) {
            x.read(1, 1, 0, 1);
            CHECK.due("from " + f + " on", x.read(1, 1, f, 20), 0);
            CHECK.due("index", x.torn(), 2);
        }
        CHECK.due("as of another lane", x.read(1, 0, 0, 1), 0);
        CHECK.due("cast", x.torn(), 3);
        CHECK.due("cast is ahead of index", x.read(1, 2, 99, 1), 0);
        CHECK.due("cast", x.torn(), 3);
        CHECK.due("of nothing", x.read(0, 1, 99, 1), 0);
        CHECK.due("null", x.torn(), 1);
    }

    private static void readsThatAreRefused() {
        CellPacks x = withPairs(1, 5, 0, 2, 4, 0, 1);
        x.read(0, 0, 0, 1);
        CHECK.due("cell 4 of 4", x.read(1, 1, 0, 2), -21);
        CHECK.dueHomes("none came", x, "0120");
        CHECK.due("torn is left", x.torn(), 1);
        CHECK.due("refused ahead of index", x.read(1, 1, 0, 3), -21);
        CHECK.due("torn is left", x.torn(), 1);
        x.lay(1, 2, 1);
        x.lay(1, 3, 3);
        CHECK.due("group 3 of 3", x.read(1, 1, 0, 2), -21);
        x.lay(1, 1, -1);
        CHECK.due("the first met", x.read(1, 1, 0, 2), -20);
        CHECK.due("bad leaves torn", x.read(4, 1, 0, 2), CellPacks.BAD);
        CHECK.due("torn is left", x.torn(), 1);
        x.lay(1, 1, 1);
        CHECK.due("only what is read is looked at", x.read(1, 1, 0, 1), 1);
        x.lay(1, 4, 99);
        x.lay(1, 3, 0);
        CHECK.due("half a pair is not looked at", x.read(1, 1, 0, 3), 2);
    }

    private static void readsOfNothing() {
        CellPacks x = withPairs(1, 2);
        x.read(0, 0, 0, 1);
        CHECK.due("null", x.torn(), 1);
        CHECK.due("none of nothing", x.read(0, 0, 0, 0), 0);
        CHECK.due("no fault", x.torn(), 0);
        x.read(0, 0, 0, 1);
        CHECK.due("none of another lane", x.read(1, 2, -5, 0), 0);
        CHECK.due("no fault", x.torn(), 0);
        x.read(0, 0, 0, 1);
        CHECK.due("none from outside", x.read(1, 1, 99, 0), 0);
        CHECK.due("no fault", x.torn(), 0);
        CHECK.due("no cells in the pack", emptyPackRead(), -20);
    }

    private static int emptyPackRead() {
        CellPacks x = new CellPacks();
        x.sheet(0, 0, 2);
        return x.read(0, 0, 0, 1);
    }

    private static void counts() {
        CellPacks x = Check.told("groups 4;cells 30 5 60;");
        CHECK.due("count -1", x.count(-1), CellPacks.BAD);
        CHECK.due("count 6", x.count(6), CellPacks.BAD);
        CHECK.due("no images", x.count(0), 0);
        x.keep(1);
        CHECK.due("an image", x.count(0), 1);
        x.keep(0);
        x.keep(0);
        CHECK.due("two images", x.count(0), 2);
        CHECK.due("a group without cells", x.count(1), 1);
        x.move(1, 0);
        CHECK.due("two groups without cells", x.count(1), 2);
        x.feed('a');
        CHECK.due("a byte", x.count(2), 1);
        x.sheet(1, 0, 9);
        CHECK.due("sheet 0 is nothing", x.count(3), CellPacks.NONE);
        x.sheet(0, 0, 9);
        CHECK.due("cells of sheet 0", x.count(3), 9);
        CHECK.due("none bled", x.count(4), 0);
        x.bleed(1);
        CHECK.due("two bled", x.count(4), 2);
        CHECK.due("greatest charge", x.count(5), 60);
        x.drop(2);
        CHECK.due("greatest charge of the first", x.count(5), 30);
    }
}
