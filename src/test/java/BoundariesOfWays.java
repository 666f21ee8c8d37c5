/** Promises 9 to 13, sentence by sentence. */
final class BoundariesOfWays {
    private static final int LOWEST = Integer.MIN_VALUE, HIGHEST = Integer.MAX_VALUE;
    private final Check check;

    BoundariesOfWays(Check check) {
        this.check = check;
    }

    void tell(Sentences s) {
        s.section("Promise 9: take");
        s.holds("All CELLS are put into GROUPS by a WAY (what they HAVE stays): SPREAD then.", this::take);
        s.holds("BAD;", this::takeBad);
        s.holds("STATE.", this::takeState);
        s.section("Promise 10: would");
        s.holds("By a WAY (nothing changes):", this::wouldChangesNothing);
        s.holds("by CHARGES 0 the least SUM, 1 SPREAD, 2 how many CELLS are in another GROUP than now.", this::would);
        s.holds("BAD;", this::wouldBad);
        s.holds("STATE.", this::wouldState);
        s.section("Promise 11: where");
        s.holds("Which GROUP a CELL would be in by a WAY.", this::where);
        s.holds("BAD;", this::whereBad);
        s.holds("STATE.", this::whereState);
        s.section("Promise 12: bound");
        s.holds("0 BOUND,", this::bound);
        s.holds("1 BOUND less the least SUM of GROUPS as they are, by CHARGES,", this::boundLess);
        s.holds("2 how many of WAYS 0 to 2 reach BOUND.", this::boundReached);
        s.holds("BAD.", this::boundBad);
        s.section("Promise 13: joined");
        s.holds("DIFFERENCES that are joined by WAY 2, the i-th time (0 on): 100 times the least CELL of the first PART, and that of the second.",
            this::joined);
        s.holds("BAD: i below 0;", this::joinedBad);
        s.holds("NONE: there are not so many.", this::joinedNone);
    }

    private static CellPacks ofCells(int n) {
        CellPacks x = new CellPacks();
        x.draw(3, n);
        return x;
    }

    /** 50 has 10 left: by charges it stands alone, and its group has 10 then. */
    private void take() {
        CellPacks x = Check.told("rate 40;cells 50 10 10;");
        x.bleed(1);
        check.due("spread by what cells have", x.take(1), 10);
        check.dueHomes("by charges", x, "011");
        check.due("what it has stays", x.cell(0, 1), 10);
        for (int way = 0; way < 4; way++) {
            check.due("of no cells", new CellPacks().take(way), 0);
            check.due("of one cell", Check.told("groups 5;cells 7;").take(way), 7);
        }
        CellPacks all = ofCells(16);
        for (int way = 0; way < 3; way++) {
            check.due("of sixteen", all.take(way), all.rule(7));
            check.due("none is elsewhere", all.would(way, 2), 0);
        }
    }

    private void takeBad() {
        CellPacks x = Check.told("cells 5 6 7;");
        x.move(0, 1);
        check.dueEach("take", CellPacks.BAD, x::take, -1, 4, LOWEST, HIGHEST);
        check.dueHomes("as they were", x, "110");
    }

    private void takeState() {
        CellPacks x = ofCells(10);
        x.move(0, 1);
        String before = Picture.ofPack(x);
        check.due("ten cells", x.take(3), CellPacks.STATE);
        check.dueSame("the pack", Picture.ofPack(x), before);
        x.drop(9);
        check.dueTrue("nine cells", x.take(3) >= 0);
        check.due("sixteen cells", ofCells(16).take(3), CellPacks.STATE);
    }

    private void wouldChangesNothing() {
        CellPacks asked = Picture.busy();
        CellPacks twin = Picture.busy();
        for (int way = 0; way < 4; way++) {
            for (int what = 0; what < 3; what++) {
                check.dueTrue("would", asked.would(way, what) >= 0);
            }
        }
        check.dueSame("all behind would", Picture.of(asked), Picture.of(twin));
    }

    private void would() {
        CellPacks x = Check.told("rate 40;cells 50 10 10;");
        x.bleed(1);
        check.dueRow("by turns", what -> x.would(0, what), 10, 50, 0);
        check.dueRow("by weakest", what -> x.would(1, what), 20, 30, 1);
        x.move(0, 1);
        x.move(1, 0);
        x.move(2, 0);
        check.due("all are elsewhere", x.would(1, 2), 3);
        for (int way = 0; way < 4; way++) {
            int by = way;
            CellPacks none = new CellPacks();
            check.dueRow("of no cells", what -> none.would(by, what), 0, 0, 0);
            CellPacks one = Check.told("groups 5;cells 7;");
            check.dueRow("of one cell", what -> one.would(by, what), 0, 7, 0);
        }
    }

    private void wouldBad() {
        CellPacks x = Check.told("cells 5 6 7;");
        check.dueEach("way", CellPacks.BAD, way -> x.would(way, 0), -1, 4, LOWEST, HIGHEST);
        check.dueEach("what", CellPacks.BAD, what -> x.would(0, what), -1, 3, LOWEST, HIGHEST);
    }

    private void wouldState() {
        CellPacks x = ofCells(10);
        check.dueEach("what", CellPacks.STATE, what -> x.would(3, what), 0, 1, 2);
        check.dueEach("bad ahead of it", CellPacks.BAD, what -> x.would(3, what), -1, 3);
        x.drop(0);
        check.dueTrue("nine cells", x.would(3, 0) >= 0);
    }

    private void where() {
        CellPacks x = Check.told("groups 3;cells 8 7 6 5 4 3 100;");
        check.dueWhere(x, 0, "0120120");
        check.dueWhere(x, 1, "1221120");
        check.dueWhere(x, 2, "2112120");
        check.dueWhere(x, 3, "0101102");
        check.dueHomes("nothing changed", x, "0120120");
        CellPacks all = ofCells(16);
        check.due("the last of sixteen", all.where(0, 15), 1);
        CellPacks other = Check.told("cells 3 9;");
        for (int way = 1; way < 4; way++) {
            check.due("by way " + way, other.where(way, 0), way == 3 ? 0 : 1);
            check.due("then by turns", other.where(0, 0), 0);
        }
        other.set(0, 10);
        check.dueWhere(other, 1, "01");
    }

    private void whereBad() {
        CellPacks none = new CellPacks();
        check.due("of no cells", none.where(0, 0), CellPacks.BAD);
        CellPacks x = Check.told("cells 5 6 7;");
        check.dueEach("way", CellPacks.BAD, way -> x.where(way, 0), -1, 4, LOWEST, HIGHEST);
        check.dueEach("cell", CellPacks.BAD, i -> x.where(0, i), -1, 3, LOWEST, HIGHEST);
    }

    private void whereState() {
        CellPacks x = ofCells(10);
        check.dueEach("cell", CellPacks.STATE, i -> x.where(3, i), 0, 9);
        check.dueEach("bad ahead of it", CellPacks.BAD, i -> x.where(3, i), -1, 10);
        x.drop(0);
        check.dueTrue("nine cells", x.where(3, 0) >= 0);
    }

    private void bound() {
        check.due("of no cells", new CellPacks().bound(0), 0);
        check.due("less than K", Check.told("groups 5;cells 4;").bound(0), 0);
        CellPacks x = Check.told("cells 50 11;");
        x.bleed(200);
        check.due("61 by 2, though they bled", x.bound(0), 30);
    }

    private void boundLess() {
        check.due("of no cells", new CellPacks().bound(1), 0);
        check.due("reached", Check.told("cells 5 6;").bound(1), 0);
        CellPacks x = Check.told("cells 50 10;");
        check.due("30 less 10", x.bound(1), 20);
        x.bleed(200);
        check.due("by charges, though they bled", x.bound(1), 20);
        x.move(1, 0);
        check.due("a group of none: 30 less 0", x.bound(1), 30);
    }

    private void boundReached() {
        check.due("of no cells all do", new CellPacks().bound(2), 3);
        check.due("none does", Check.told("cells 8 7 6 5 4;").bound(2), 0);
        check.due("weakest and differences", Check.told("cells 9 5 4;").bound(2), 2);
        check.due("all", Check.told("cells 5 5 5 5;").bound(2), 3);
        check.due("turns alone", Check.told("cells 6 8 5 7 4;").bound(2), 1);
        check.due("rounded down", Check.told("cells 5 6;").bound(2), 3);
    }

    private void boundBad() {
        CellPacks x = Check.told("cells 5 6 7;");
        check.dueEach("bound", CellPacks.BAD, x::bound, -1, 3, LOWEST, HIGHEST);
    }

    private void joined() {
        CellPacks x = Check.told("groups 3;cells 8 7 6 5 4 3 100;");
        check.dueRow("joined", x::joined, 600, 1, 2, 3, 4, 5, CellPacks.NONE);
        check.dueHomes("nothing changed", x, "0120120");
        CellPacks last = Check.told("cells 1 1 1 1 1 1 1 1 1 1 1 1 1 1 8 9;");
        check.due("the greatest numbers", last.joined(0), 1514);
        check.due("the first cell is 0", last.joined(1), 1);
    }

    private void joinedBad() {
        check.dueEach("of no cells", CellPacks.BAD, new CellPacks()::joined, -1, LOWEST);
        check.dueEach("of three", CellPacks.BAD, Check.told("cells 5 6 7;")::joined, -1, LOWEST);
    }

    private void joinedNone() {
        check.dueEach("of no cells", CellPacks.NONE, new CellPacks()::joined, 0, 1, HIGHEST);
        check.dueEach("of one cell", CellPacks.NONE, ofCells(1)::joined, 0, 1);
        CellPacks two = ofCells(2);
        check.dueTrue("once of two", two.joined(0) >= 0);
        check.due("not twice", two.joined(1), CellPacks.NONE);
        CellPacks all = ofCells(16);
        check.dueTrue("fifteen times of sixteen", all.joined(14) >= 0);
        check.dueEach("and no more", CellPacks.NONE, all::joined, 15, 16, HIGHEST);
    }
}
