/** Promises 14 to 21: move, swap, better, add, drop, set, rate, groups. */
final class HandTest {
    private static final Check CHECK = new Check("HandTest");

    public static void main(String[] args) {
        moves();
        swaps();
        betters();
        adds();
        drops();
        sets();
        rates();
        groupCounts();
        CHECK.finish();
    }

    private static void moves() {
        CellPacks x = Check.told("groups 3;cells 1 2 3;");
        CHECK.due("move cell -1", x.move(-1, 0), CellPacks.BAD);
        CHECK.due("move cell 3 of 3", x.move(3, 0), CellPacks.BAD);
        CHECK.due("move into -1", x.move(0, -1), CellPacks.BAD);
        CHECK.due("move into 3 of 3", x.move(0, 3), CellPacks.BAD);
        CHECK.dueHomes("nothing moved", x, "012");
        CHECK.due("move 1 into 2", x.move(1, 2), 1);
        CHECK.due("move it again", x.move(1, 2), 2);
        CHECK.dueHomes("moved", x, "022");
        CHECK.due("no cell on a new object", new CellPacks().move(0, 0), CellPacks.BAD);
    }

    private static void swaps() {
        CellPacks x = Check.told("cells 10 20 30 45;");
        CHECK.due("swap cell -1", x.swap(-1, 0), CellPacks.BAD);
        CHECK.due("swap with cell -1", x.swap(0, -1), CellPacks.BAD);
        CHECK.due("swap cell 4", x.swap(4, 0), CellPacks.BAD);
        CHECK.due("swap with cell 4", x.swap(0, 4), CellPacks.BAD);
        CHECK.due("swap with itself", x.swap(2, 2), 25);
        CHECK.due("swap of one group", x.swap(0, 2), 25);
        CHECK.dueHomes("which stay", x, "0101");
        CHECK.due("swap 3, 0", x.swap(3, 0), 45);
        CHECK.dueHomes("swapped", x, "1100");
    }

    private static void betters() {
        CHECK.due("better of no cells", new CellPacks().better(), CellPacks.NONE);
        CHECK.due("better of alike cells", Check.told("cells 5 5 5;").better(), CellPacks.NONE);
        CellPacks x = Check.told("cells 10 1 9 2;");
        CHECK.due("of several the first", x.better(), 3);
        x.swap(0, 3);
        CHECK.due("nothing is better", x.better(), CellPacks.NONE);
        CellPacks three = Check.told("groups 3;cells 1 5 9 2 5 9;");
        CHECK.due("first that makes the least sum greatest", three.better(), 2);
        CellPacks bled = Check.told("floor 10;rate 99;slack 0;cells 90 40 20 50;");
        CHECK.due("ahead of bleeding", bled.better(), CellPacks.NONE);
        bled.bleed(1);
        CHECK.due("it bled down to the floor", bled.cell(0, 1), 10);
        CHECK.due("by what cells have", bled.better(), 1);
    }

    private static void adds() {
        CellPacks x = new CellPacks();
        CHECK.due("add 0", x.add(0), CellPacks.BAD);
        CHECK.due("add 1000", x.add(1000), CellPacks.BAD);
        CHECK.due("add 999", x.add(999), 1);
        CHECK.due("add 1", x.add(1), 2);
        CHECK.due("add 7", x.add(7), 3);
        CHECK.dueHomes("into the weakest", x, "011");
        CHECK.due("its charge", x.cell(2, 0), 7);
        CHECK.due("what it has", x.cell(2, 1), 7);
        for (int n = 4; n <= 16; n++) {
            CHECK.due("add the " + n + "th", x.add(5), n);
        }
        CHECK.due("add a 17th", x.add(5), CellPacks.FULL);
        CHECK.due("a bad 17th", x.add(0), CellPacks.BAD);
        CHECK.due("none came", x.rule(0), 16);
        CellPacks bled = Check.told("rate 99;slack 0;cells 50 40 5;");
        bled.bleed(1);
        CHECK.due("a group of 5 and one of 40", bled.rule(6), 5);
        bled.add(9);
        CHECK.due("the weakest is by what cells have", bled.cell(3, 2), 0);
    }

    private static void drops() {
        CellPacks x = Check.told("groups 3;cells 60 50 40 30;");
        x.bleed(1);
        CHECK.due("drop -1", x.drop(-1), CellPacks.BAD);
        CHECK.due("drop 4 of 4", x.drop(4), CellPacks.BAD);
        CHECK.due("drop 1", x.drop(1), 3);
        CHECK.dueHomes("those behind keep their groups", x, "020");
        CHECK.due("charge of the next", x.cell(1, 0), 40);
        CHECK.due("what the first has", x.cell(0, 1), 50);
        CHECK.due("charge of the last", x.cell(2, 0), 30);
        CHECK.due("no fourth", x.cell(3, 0), CellPacks.BAD);
        CHECK.due("drop the last", x.drop(2), 2);
        CHECK.due("drop the first", x.drop(0), 1);
        CHECK.due("what is left", x.cell(0, 0), 40);
        CHECK.due("drop it", x.drop(0), 0);
        CHECK.due("none to drop", x.drop(0), CellPacks.BAD);
        CellPacks bled = Check.told("rate 7;slack 0;cells 9 30;");
        bled.bleed(1);
        bled.drop(0);
        CHECK.due("what it has goes along", bled.cell(0, 1), 23);
    }

    private static void sets() {
        CellPacks x = Check.told("cells 50 10;");
        CHECK.due("set -1", x.set(-1, 5), CellPacks.BAD);
        CHECK.due("set 2 of 2", x.set(2, 5), CellPacks.BAD);
        CHECK.due("set to 0", x.set(0, 0), CellPacks.BAD);
        CHECK.due("set to 1000", x.set(0, 1000), CellPacks.BAD);
        x.bleed(1);
        CHECK.due("what it has", x.cell(0, 1), 40);
        CHECK.due("the charge it was", x.set(0, 999), 50);
        CHECK.due("the charge it is", x.cell(0, 0), 999);
        CHECK.due("it has that", x.cell(0, 1), 999);
        CHECK.due("set to 1", x.set(0, 1), 999);
        CHECK.dueHomes("groups stay", x, "01");
    }

    private static void rates() {
        CellPacks x = new CellPacks();
        CHECK.due("rate what -1", x.rate(-1, 5), CellPacks.BAD);
        CHECK.due("rate what 3", x.rate(3, 5), CellPacks.BAD);
        int[] least = {0, 1, 0};
        int[] most = {999, 99, 99};
        int[] first = {0, 10, 5};
        for (int what = 0; what < 3; what++) {
            CHECK.due("below: " + what, x.rate(what, least[what] - 1), CellPacks.BAD);
            CHECK.due("above: " + what, x.rate(what, most[what] + 1), CellPacks.BAD);
            CHECK.due("as at first: " + what, x.rule(what + 2), first[what]);
            CHECK.due("most: " + what, x.rate(what, most[what]), first[what]);
            CHECK.due("least: " + what, x.rate(what, least[what]), most[what]);
            CHECK.due("then: " + what, x.rule(what + 2), least[what]);
        }
    }

    private static void groupCounts() {
        CellPacks x = Check.told("cells 1 2 3 4 5 6;");
        CHECK.due("groups 1", x.groups(1), CellPacks.BAD);
        CHECK.due("groups 6", x.groups(6), CellPacks.BAD);
        CHECK.due("groups 5", x.groups(5), 2);
        CHECK.dueHomes("by turns of five", x, "012340");
        CHECK.due("groups 2", x.groups(2), 5);
        CHECK.dueHomes("by turns of two", x, "010101");
        x.move(0, 1);
        CHECK.due("groups as it is", x.groups(2), 2);
        CHECK.dueHomes("by turns again", x, "010101");
        CHECK.due("K", x.rule(1), 2);
    }
}
