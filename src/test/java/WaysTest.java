/** Promises 9 to 13: take, would, where, bound, joined. */
final class WaysTest {
    private static final Check CHECK = new Check("WaysTest");

    public static void main(String[] args) {
        wrongNumbers();
        turns();
        weakest();
        differences();
        differencesOfAlikeBundles();
        best();
        bestAtItsLimit();
        takeKeepsWhatCellsHave();
        bounds();
        noCellsAndOne();
        sixteenCells();
        CHECK.finish();
    }

    private static void wrongNumbers() {
        CellPacks x = Check.told("cells 1 2 3;");
        CHECK.due("take -1", x.take(-1), CellPacks.BAD);
        CHECK.due("take 4", x.take(4), CellPacks.BAD);
        CHECK.due("would way -1", x.would(-1, 0), CellPacks.BAD);
        CHECK.due("would way 4", x.would(4, 0), CellPacks.BAD);
        CHECK.due("would what -1", x.would(0, -1), CellPacks.BAD);
        CHECK.due("would what 3", x.would(0, 3), CellPacks.BAD);
        CHECK.due("where way -1", x.where(-1, 0), CellPacks.BAD);
        CHECK.due("where way 4", x.where(4, 0), CellPacks.BAD);
        CHECK.due("where cell -1", x.where(0, -1), CellPacks.BAD);
        CHECK.due("where cell 3", x.where(0, 3), CellPacks.BAD);
        CHECK.due("bound -1", x.bound(-1), CellPacks.BAD);
        CHECK.due("bound 3", x.bound(3), CellPacks.BAD);
        CHECK.due("joined -1", x.joined(-1), CellPacks.BAD);
        CHECK.due("joined lowest", x.joined(Integer.MIN_VALUE), CellPacks.BAD);
        CHECK.due("joined 2 of 2", x.joined(2), CellPacks.NONE);
        CHECK.due("joined highest", x.joined(Integer.MAX_VALUE), CellPacks.NONE);
        CHECK.dueHomes("nothing changed", x, "010");
    }

    private static void turns() {
        CellPacks x = Check.told("groups 3;cells 9 8 7 6 5 4 3;");
        x.take(1);
        CHECK.dueWhere(x, 0, "0120120");
        CHECK.due("least by turns", x.would(0, 0), 11);
        CHECK.due("spread by turns", x.would(0, 1), 7);
        CHECK.due("take turns", x.take(0), 7);
        CHECK.dueHomes("by turns", x, "0120120");
        CHECK.due("none in another group", x.would(0, 2), 0);
    }

    /** 70 60 50 40 30 20: each into the least so far; alike sums go to the first group. */
    private static void weakest() {
        CellPacks x = Check.told("groups 3;cells 20 30 40 50 60 70;");
        CHECK.dueWhere(x, 1, "012210");
        CHECK.due("least by weakest", x.would(1, 0), 90);
        CHECK.due("spread by weakest", x.would(1, 1), 0);
        CHECK.due("others by weakest", x.would(1, 2), 2);
        CHECK.dueHomes("would changes nothing", x, "012012");
        CHECK.due("take weakest", x.take(1), 0);
        CHECK.dueHomes("by weakest", x, "012210");
        CellPacks alike = Check.told("groups 2;cells 5 5 5 5 5;");
        CHECK.dueWhere(alike, 1, "01010");
    }

    /** By two: 8 less 7 is 1, 6 less 5 is 1; 4 with the latter is 4 and 5 less 6; then 9 and 7 less 6 and 8. */
    private static void differences() {
        CellPacks x = Check.told("cells 4 5 6 7 8;");
        CHECK.due("joined 0", x.joined(0), 403);
        CHECK.due("joined 1", x.joined(1), 201);
        CHECK.due("joined 2", x.joined(2), 1);
        CHECK.due("joined 3", x.joined(3), 3);
        CHECK.due("joined 4", x.joined(4), CellPacks.NONE);
        CHECK.dueWhere(x, 2, "00101");
        CHECK.due("least by differences", x.would(2, 0), 14);
        CHECK.due("spread by differences", x.would(2, 1), 2);
        CHECK.due("others by differences", x.would(2, 2), 4);
        CHECK.due("take differences", x.take(2), 2);
        CHECK.dueHomes("by differences", x, "00101");
    }

    /** Alike bundles stand by their least cells; one cell a group, and empty groups last. */
    private static void differencesOfAlikeBundles() {
        CellPacks x = Check.told("groups 3;cells 7 7 7;");
        CHECK.dueWhere(x, 2, "012");
        CHECK.due("joined 0 of alike", x.joined(0), 1);
        CHECK.due("joined 1 of alike", x.joined(1), 2);
        CellPacks few = Check.told("groups 5;cells 3 9;");
        CHECK.dueWhere(few, 2, "10");
        CHECK.due("joined of two", few.joined(0), 100);
        CHECK.due("a group stays empty", few.would(2, 0), 0);
        CHECK.due("spread of two", few.would(2, 1), 9);
    }

    private static void best() {
        CellPacks x = Check.told("cells 8 7 6 5 4;");
        CHECK.due("least by differences", x.would(2, 0), 14);
        CHECK.due("least by best", x.would(3, 0), 15);
        CHECK.dueWhere(x, 3, "00111");
        CHECK.due("take best", x.take(3), 0);
        CHECK.dueHomes("by best", x, "00111");
        CellPacks three = Check.told("groups 3;cells 10 10 6 6 1;");
        CHECK.dueWhere(three, 3, "01220");
        CHECK.due("of the greatest least sum", three.would(3, 0), 10);
        CHECK.due("that of least greatest sum", three.would(3, 1), 2);
        CellPacks exact = Check.told("groups 3;cells 6 8 7 7;");
        CHECK.dueWhere(exact, 3, "0102");
        CHECK.due("a least sum reached by the last cell", exact.would(3, 1), 6);
        CellPacks tie = Check.told("groups 4;cells 5 5 5;");
        CHECK.dueWhere(tie, 3, "012");
        CHECK.due("least greatest sum where a group is empty", tie.would(3, 1), 5);
    }

    private static void bestAtItsLimit() {
        CellPacks x = Check.told("groups 5;cells 11 12 13 14 15 16 17 18 19;");
        CHECK.due("best of nine", x.would(3, 0), 19);
        CHECK.due("add a tenth", x.add(1), 10);
        CHECK.due("take best of ten", x.take(3), CellPacks.STATE);
        CHECK.due("would best of ten", x.would(3, 0), CellPacks.STATE);
        CHECK.due("where best of ten", x.where(3, 0), CellPacks.STATE);
        CHECK.due("would, bad ahead of state", x.would(3, 3), CellPacks.BAD);
        CHECK.due("where, bad ahead of state", x.where(3, 10), CellPacks.BAD);
        CHECK.due("the other ways are open", x.would(2, 2) >= 0 ? 1 : 0, 1);
    }

    private static void takeKeepsWhatCellsHave() {
        CellPacks x = Check.told("rate 40;cells 50 10 10;");
        x.bleed(1);
        CHECK.due("a cell that bled", x.cell(0, 1), 10);
        CHECK.due("weakest is by charges: spread by what cells have", x.take(1), 10);
        CHECK.dueHomes("by charges", x, "011");
        CHECK.due("what it has stays", x.cell(0, 1), 10);
        CHECK.due("would is by charges", x.would(1, 1), 30);
        CHECK.due("least of would is by charges", x.would(1, 0), 20);
    }

    private static void bounds() {
        CellPacks x = Check.told("cells 8 7 6 5 5;");
        CHECK.due("bound, down", x.bound(0), 15);
        CHECK.due("bound less the least", x.bound(1), 3);
        CHECK.due("ways that reach it", x.bound(2), 0);
        x.rate(2, 0);
        x.bleed(1);
        CHECK.due("bound is by charges", x.bound(1), 3);
        x.take(3);
        CHECK.due("best reaches it", x.bound(1), 0);
        CellPacks two = Check.told("cells 9 5 4;");
        CHECK.due("bound 9", two.bound(0), 9);
        CHECK.due("weakest and differences reach it", two.bound(2), 2);
        CellPacks all = Check.told("cells 5 5 5 5;");
        CHECK.due("three ways reach it", all.bound(2), 3);
    }

    /** 16 down to 1 by four: each round of turns and of the weakest gives all groups 34. */
    private static void sixteenCells() {
        CellPacks x = Check.told("groups 4;cells 16 15 14 13 12 11 10 9 8 7 6 5 4 3 2 1;");
        CHECK.due("bound of sixteen", x.bound(0), 34);
        CHECK.due("weakest and differences reach it", x.bound(2), 2);
        CHECK.dueWhere(x, 1, "0123321001233210");
        CHECK.due("the first two joined", x.joined(0), 1);
        CHECK.dueTrue("fifteen are joined", x.joined(14) >= 0);
        CHECK.due("not a sixteenth", x.joined(15), CellPacks.NONE);
        CHECK.due("turns: 40 less 28", x.would(0, 1), 12);
        CHECK.due("take weakest", x.take(1), 0);
        CHECK.due("nothing is better", x.better(), CellPacks.NONE);
    }

    private static void noCellsAndOne() {
        CellPacks x = new CellPacks();
        for (int way = 0; way < 4; way++) {
            CHECK.due("take of no cells", x.take(way), 0);
            CHECK.due("would of no cells", x.would(way, 0), 0);
            CHECK.due("where of no cells", x.where(way, 0), CellPacks.BAD);
        }
        CHECK.due("bound of no cells", x.bound(0), 0);
        CHECK.due("ways that reach 0", x.bound(2), 3);
        CHECK.due("joined of no cells", x.joined(0), CellPacks.NONE);
        x.add(7);
        for (int way = 0; way < 4; way++) {
            CHECK.due("take of one cell", x.take(way), 7);
            CHECK.due("where of one cell", x.where(way, 0), 0);
        }
        CHECK.due("joined of one cell", x.joined(0), CellPacks.NONE);
    }
}
