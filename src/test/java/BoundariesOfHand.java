/** Promises 14 to 21, sentence by sentence. */
final class BoundariesOfHand {
    private static final int LOWEST = Integer.MIN_VALUE, HIGHEST = Integer.MAX_VALUE;
    private final Check check;

    BoundariesOfHand(Check check) {
        this.check = check;
    }

    void tell(Sentences s) {
        s.section("Promise 14: move");
        s.holds("A CELL is in GROUP g then: in which it was.", this::move);
        s.holds("BAD.", this::moveBad);
        s.section("Promise 15: swap");
        s.holds("Two CELLS (or one that stays as it is) change their GROUPS: SPREAD then.", this::swap);
        s.holds("BAD.", this::swapBad);
        s.section("Promise 16: better");
        s.holds("The exchange of two CELLS (100 times the lesser, and the other; of GROUPS that are not the same)", this::betterPair);
        s.holds("that makes the least SUM greatest,", this::betterMost);
        s.holds("if that is more than it is;", this::betterIsMore);
        s.holds("of several the first.", this::betterFirst);
        s.holds("NONE.", this::betterNone);
        s.section("Promise 17: add");
        s.holds("A CELL more, of CHARGE v, into the WEAKEST: how many there are.", this::add);
        s.holds("BAD;", this::addBad);
        s.holds("FULL.", this::addFull);
        s.section("Promise 18: drop");
        s.holds("A CELL goes, those behind it are numbered one less: how many are left.", this::drop);
        s.holds("BAD.", this::dropBad);
        s.section("Promise 19: set");
        s.holds("CHARGE of a CELL becomes v, it HAS that: what it was.", this::set);
        s.holds("BAD.", this::setBad);
        s.section("Promise 20: rate");
        s.holds("FLOOR (what 0), RATE (1), SLACK (2) becomes v: what it was.", this::rate);
        s.holds("BAD.", this::rateBad);
        s.section("Promise 21: groups");
        s.holds("K becomes k, GROUPS are by WAY 0: what it was.", this::groups);
        s.holds("BAD.", this::groupsBad);
    }

    private void move() {
        CellPacks x = Check.told("groups 5;cells 1 2 3;");
        check.due("into the last group", x.move(0, 4), 0);
        check.due("into the first", x.move(2, 0), 2);
        check.due("into that it is in", x.move(1, 1), 1);
        check.dueHomes("moved", x, "410");
        check.due("in which it was", x.move(0, 0), 4);
    }

    private void moveBad() {
        check.due("of no cells", new CellPacks().move(0, 0), CellPacks.BAD);
        CellPacks x = Check.told("groups 3;cells 1 2;");
        check.dueEach("cell", CellPacks.BAD, i -> x.move(i, 0), -1, 2, LOWEST, HIGHEST);
        check.dueEach("group", CellPacks.BAD, g -> x.move(0, g), -1, 3, LOWEST, HIGHEST);
        check.dueHomes("as they were", x, "01");
    }

    private void swap() {
        CellPacks x = Check.told("groups 3;cells 10 20 30 45;");
        check.due("the first and the last but one", x.swap(0, 2), 65);
        check.dueHomes("changed", x, "2100");
        check.due("one that stays", x.swap(3, 3), 65);
        check.due("two of a group", x.swap(2, 3), 65);
        check.dueHomes("as they were", x, "2100");
        check.due("the other way round", x.swap(2, 0), 35);
        check.dueHomes("changed back", x, "0120");
        check.due("one cell alone", Check.told("cells 7;").swap(0, 0), 7);
    }

    private void swapBad() {
        check.due("of no cells", new CellPacks().swap(0, 0), CellPacks.BAD);
        CellPacks x = Check.told("cells 1 2;");
        check.dueEach("the first", CellPacks.BAD, i -> x.swap(i, 0), -1, 2, LOWEST, HIGHEST);
        check.dueEach("the second", CellPacks.BAD, j -> x.swap(0, j), -1, 2, LOWEST, HIGHEST);
        check.due("both", x.swap(2, 2), CellPacks.BAD);
        check.dueHomes("as they were", x, "01");
    }

    private void betterPair() {
        CellPacks x = Check.told("cells 2 1 2 1 2 1 2 1 2 1 2 1 2 1 9 5;");
        check.due("the lesser first", x.better(), 1415);
        check.dueHomes("nothing changed", x, "0101010101010101");
        check.due("of one group", oneGroup().better(), CellPacks.NONE);
    }

    private static CellPacks oneGroup() {
        CellPacks x = Check.told("cells 9 5 1;");
        x.move(1, 0);
        return x;
    }

    /** Sums of 20 and 10: 9 for 6 gives a least sum of 13, 9 for 4 one of 15. */
    private void betterMost() {
        CellPacks x = Check.told("cells 9 6 11 4;");
        check.due("not the first that is better", x.better(), 3);
        CellPacks bled = Check.told("floor 10;rate 99;slack 0;cells 90 40 20 50;");
        check.due("ahead of bleeding", bled.better(), CellPacks.NONE);
        bled.bleed(1);
        check.due("by what cells have: 10 and 20 against 40 and 50", bled.better(), 1);
    }

    private void betterIsMore() {
        check.due("the groups change places", Check.told("cells 3 2;").better(), CellPacks.NONE);
        check.due("another group stays the least", Check.told("groups 3;cells 9 1 1 9;").better(), CellPacks.NONE);
        check.due("one more", Check.told("cells 3 2 1;").better(), 1);
        check.due("less", Check.told("cells 5 4 1 2;").better(), CellPacks.NONE);
    }

    private void betterFirst() {
        check.due("3 for 1, twice", Check.told("cells 3 1 3 1;").better(), 1);
        check.due("0 and 3, 2 and 1 alike", Check.told("cells 10 1 9 2;").better(), 3);
        check.due("1 for 3, twice", Check.told("cells 1 3 1 3;").better(), 1);
    }

    private void betterNone() {
        check.due("of no cells", new CellPacks().better(), CellPacks.NONE);
        check.due("of one cell", Check.told("cells 7;").better(), CellPacks.NONE);
        check.due("of alike cells", Check.told("groups 3;cells 7 7 7 7;").better(), CellPacks.NONE);
        check.due("a group of none stays so", Check.told("groups 3;cells 9 1;").better(), CellPacks.NONE);
    }

    private void add() {
        CellPacks x = Check.told("groups 3;rate 99;slack 0;cells 50 40 30;");
        check.due("the fourth", x.add(999), 4);
        check.due("into the weakest", x.cell(3, 2), 2);
        x.drop(3);
        x.bleed(1);
        check.due("the fourth again", x.add(1), 4);
        check.due("of several weakest the first, by what they have", x.cell(3, 2), 0);
        check.dueRow("charge, has", what -> x.cell(3, what), 1, 1);
        CellPacks empty = new CellPacks();
        check.due("the first", empty.add(1), 1);
        check.due("into group 0", empty.cell(0, 2), 0);
    }

    private void addBad() {
        CellPacks x = new CellPacks();
        check.dueEach("add", CellPacks.BAD, x::add, 0, 1000, -1, LOWEST, HIGHEST);
        check.due("none came", x.rule(0), 0);
    }

    private void addFull() {
        CellPacks x = new CellPacks();
        for (int n = 1; n <= 16; n++) {
            check.due("the " + n + "th", x.add(n), n);
        }
        String before = Picture.ofPack(x);
        check.due("the 17th", x.add(1), CellPacks.FULL);
        check.due("a bad 17th", x.add(0), CellPacks.BAD);
        check.dueSame("the pack", Picture.ofPack(x), before);
        x.drop(0);
        check.due("room again", x.add(1), 16);
    }

    private void drop() {
        CellPacks x = new CellPacks();
        for (int n = 1; n <= 16; n++) {
            x.add(n);
        }
        x.take(0);
        check.due("the first of sixteen", x.drop(0), 15);
        check.due("the last one is numbered one less", x.cell(14, 0), 16);
        check.due("its group stays", x.cell(14, 2), 1);
        check.due("no cell 15", x.cell(15, 0), CellPacks.BAD);
        check.due("the last of fifteen", x.drop(14), 14);
        check.due("those ahead stay", x.cell(13, 0), 15);
        CellPacks bled = Check.told("rate 7;slack 0;cells 9 30;");
        bled.bleed(1);
        check.due("the first of two", bled.drop(0), 1);
        check.dueRow("the other", what -> bled.cell(0, what), 30, 23, 1);
        check.due("the only one", bled.drop(0), 0);
        check.due("none is left", bled.rule(0), 0);
    }

    private void dropBad() {
        check.due("of no cells", new CellPacks().drop(0), CellPacks.BAD);
        CellPacks x = Check.told("cells 5 6;");
        check.dueEach("drop", CellPacks.BAD, x::drop, -1, 2, LOWEST, HIGHEST);
        check.due("both are left", x.rule(0), 2);
    }

    private void set() {
        CellPacks x = Check.told("cells 50 10;");
        x.bleed(1);
        check.due("the charge it was", x.set(0, 999), 50);
        check.dueRow("then", what -> x.cell(0, what), 999, 999, 0);
        check.due("the most it was", x.set(0, 1), 999);
        check.dueRow("then", what -> x.cell(0, what), 1, 1, 0);
        check.due("the last", x.set(1, 1), 10);
        check.due("as it is", x.set(1, 1), 1);
    }

    private void setBad() {
        check.due("of no cells", new CellPacks().set(0, 5), CellPacks.BAD);
        CellPacks x = Check.told("cells 50 10;");
        x.bleed(1);
        check.dueEach("cell", CellPacks.BAD, i -> x.set(i, 5), -1, 2, LOWEST, HIGHEST);
        check.dueEach("charge", CellPacks.BAD, v -> x.set(0, v), 0, 1000, -1, LOWEST, HIGHEST);
        check.dueRow("as it was", what -> x.cell(0, what), 50, 40, 0);
    }

    private void rate() {
        CellPacks x = new CellPacks();
        check.due("floor", x.rate(0, 999), 0);
        check.due("rate", x.rate(1, 99), 10);
        check.due("slack", x.rate(2, 99), 5);
        check.dueRow("each its own", what -> x.rule(what + 2), 999, 99, 99);
        check.due("floor", x.rate(0, 0), 999);
        check.due("rate", x.rate(1, 1), 99);
        check.due("slack", x.rate(2, 0), 99);
        check.dueRow("each its own", what -> x.rule(what + 2), 0, 1, 0);
    }

    private void rateBad() {
        CellPacks x = new CellPacks();
        check.dueEach("what", CellPacks.BAD, what -> x.rate(what, 5), -1, 3, LOWEST, HIGHEST);
        check.dueEach("floor", CellPacks.BAD, v -> x.rate(0, v), -1, 1000, LOWEST, HIGHEST);
        check.dueEach("rate", CellPacks.BAD, v -> x.rate(1, v), -1, 0, 100, LOWEST, HIGHEST);
        check.dueEach("slack", CellPacks.BAD, v -> x.rate(2, v), -1, 100, LOWEST, HIGHEST);
        check.dueRow("as at first", what -> x.rule(what + 2), 0, 10, 5);
    }

    private void groups() {
        CellPacks x = Check.told("rate 1;cells 90 2 3 4 5 6;");
        x.bleed(1);
        check.due("the most", x.groups(5), 2);
        check.dueHomes("by turns of five", x, "012340");
        x.move(0, 4);
        check.due("as it is", x.groups(5), 5);
        check.dueHomes("by turns again", x, "012340");
        check.due("the least", x.groups(2), 5);
        check.dueHomes("by turns of two", x, "010101");
        check.due("what cells have stays", x.cell(0, 1), 89);
        check.due("of no cells", new CellPacks().groups(3), 2);
    }

    private void groupsBad() {
        CellPacks x = Check.told("groups 3;cells 1 2 3;");
        x.move(0, 2);
        check.dueEach("groups", CellPacks.BAD, x::groups, 1, 6, 0, -1, LOWEST, HIGHEST);
        check.due("K", x.rule(1), 3);
        check.dueHomes("as they were", x, "212");
    }
}
