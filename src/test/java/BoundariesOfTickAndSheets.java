/** The document's terms of a TICK and of SHEETS. */
final class BoundariesOfTickAndSheets {
    private final Check check;

    BoundariesOfTickAndSheets(Check check) {
        this.check = check;
    }

    void tell(Sentences s) {
        s.holds("TICK: LOW is the least SUM ahead of it;", this::lowAhead);
        s.holds("of each GROUP with a SUM above LOW and SLACK", this::aboveSlack);
        s.holds("the CELL that HAS most (of several the first),", this::strongestCell);
        s.holds("if that is above FLOOR,", this::aboveFloor);
        s.holds("loses RATE,", this::losesRate);
        s.holds("but only as far as FLOOR.", this::asFarAsFloor);
        s.holds("It is QUIET, if no CELL would lose any.", this::quiet);
        s.holds("SHEETS 0 to 3 are rows of BYTES (lane 0), SHORTS (1), INTS (2), all with a sign,", this::lanes);
        s.holds("with 0 to 40 CELLS (of their own),", this::sizes);
        s.holds("or nothing (at first).", this::nothingAtFirst);
        s.holds("A FAULT is what the machine finds: 1 NULL (nothing),", this::faultNull);
        s.holds("2 INDEX,", this::faultIndex);
        s.holds("3 CAST (another lane),", this::faultCast);
        s.holds("4 SIZE (below 0).", this::faultSize);
    }

    /** The first group falls to 11, below the last one: which loses nothing in this tick. */
    private void lowAhead() {
        CellPacks x = Check.told("groups 3;rate 30;slack 0;cells 41 42 40;");
        check.due("a tick", x.bleed(1), 1);
        check.dueRow("sum of group", g -> x.group(g, 0), 11, 12, 40);
    }

    private void aboveSlack() {
        CellPacks at = Check.told("groups 5;slack 7;cells 10 17 17 17 17;");
        check.due("as much as the slack", at.bleed(1), 0);
        CellPacks above = Check.told("groups 5;slack 7;rate 1;cells 10 18 17 99 18;");
        check.due("one above it", above.bleed(1), 1);
        check.dueRow("sum of group", g -> above.group(g, 0), 10, 17, 17, 98, 17);
        check.due("the most slack", Check.told("slack 99;cells 100 1;").bleed(1), 0);
        check.due("one above the most slack", Check.told("slack 99;cells 101 1;").bleed(1), 1);
        check.due("no slack, alike", Check.told("slack 0;cells 5 5;").bleed(1), 0);
        check.due("no slack, one above", Check.told("slack 0;cells 6 5;").bleed(1), 1);
    }

    private void strongestCell() {
        CellPacks x = Check.told("rate 2;cells 5 1 8 1 8;");
        x.bleed(1);
        check.dueRow("has", i -> x.cell(i, 1), 5, 1, 6, 1, 8);
        x.bleed(1);
        check.dueRow("has", i -> x.cell(i, 1), 5, 1, 6, 1, 6);
        x.bleed(1);
        check.dueRow("has", i -> x.cell(i, 1), 5, 1, 4, 1, 6);
    }

    private void aboveFloor() {
        check.due("at the floor", Check.told("floor 50;cells 50 1;").bleed(1), 0);
        check.due("below the floor", Check.told("floor 51;cells 50 1;").bleed(1), 0);
        check.due("one above", Check.told("floor 49;cells 50 1;").bleed(1), 1);
        CellPacks x = Check.told("groups 3;floor 49;cells 50 1 49;");
        check.due("one of two groups", x.bleed(200), 1);
        check.dueRow("has", i -> x.cell(i, 1), 49, 1, 49);
    }

    private void losesRate() {
        CellPacks least = Check.told("rate 1;cells 999 1;");
        least.bleed(1);
        check.due("the least rate", least.cell(0, 1), 998);
        CellPacks most = Check.told("rate 99;cells 999 1;");
        most.bleed(2);
        check.due("the most, twice", most.cell(0, 1), 801);
        check.due("the charge stays", most.cell(0, 0), 999);
    }

    private void asFarAsFloor() {
        CellPacks x = Check.told("floor 49;rate 99;cells 50 1;");
        x.bleed(1);
        check.due("down to the floor", x.cell(0, 1), 49);
        CellPacks exact = Check.told("floor 40;rate 10;cells 50 1;");
        exact.bleed(1);
        check.due("the rate leads to the floor", exact.cell(0, 1), 40);
        CellPacks nothing = Check.told("slack 0;rate 99;cells 50 49;");
        nothing.bleed(1);
        check.due("a floor of 0", nothing.cell(0, 1), 0);
    }

    private void quiet() {
        check.due("no cells", new CellPacks().bleed(200), 0);
        check.due("alike groups", Check.told("slack 0;cells 5 5;").bleed(200), 0);
        check.due("all at the floor", Check.told("floor 999;cells 999 1;").bleed(200), 0);
        CellPacks x = Check.told("groups 3;floor 20;rate 1;cells 20 1 22;");
        check.due("the last group loses, though the first can not", x.bleed(200), 2);
        CellPacks empty = Check.told("cells 30;");
        check.due("against a group of none: down to the slack", empty.bleed(200), 3);
        check.due("what is left", empty.cell(0, 1), 0);
    }

    /** A cell of a sheet is seen by what read() makes of it: 0 and 1 are cells, all else is refused. */
    private void lanes() {
        int[][] taken = {{0, 1, 256, 257, -255, 65537}, {0, 1, 65536, 65537, -65535}, {0, 1}};
        int[][] refused = {{2, 127, 128, 255, -1, 129}, {2, 256, 257, 32767, 32768, 65535, -1, 32769},
            {2, 256, 257, 65536, 65537, Integer.MAX_VALUE, Integer.MIN_VALUE, -1}};
        for (int k = 0; k < 4; k++) {
            for (int lane = 0; lane < 3; lane++) {
                check.due("sheet", new CellPacks().sheet(k, lane, 2), 1);
                dueReads(k, lane, 1, taken[lane]);
                dueReads(k, lane, -20, refused[lane]);
            }
        }
        CellPacks x = new CellPacks();
        check.dueEach("sheet", CellPacks.BAD, k -> x.sheet(k, 0, 1), -1, 4);
        check.dueEach("sheet of lane", CellPacks.BAD, lane -> x.sheet(0, lane, 1), -1, 3);
    }

    private void dueReads(int k, int lane, int answer, int... values) {
        CellPacks x = Check.told("cells 5 6;");
        x.sheet(k, lane, 2);
        for (int v : values) {
            x.lay(k, 0, v);
            check.due("read of " + v + " as of lane " + lane, x.read(k, lane, 0, 1), answer);
        }
    }

    private void sizes() {
        CellPacks x = Check.told("cells 5 6;");
        check.due("0 cells", x.sheet(0, 0, 0), 1);
        check.due("no cell", x.lay(0, 0, 1), -12);
        check.due("40 cells", x.sheet(0, 2, 40), 1);
        check.due("the last one", x.lay(0, 39, 1), 1);
        check.due("none behind it", x.lay(0, 40, 1), -12);
        check.due("41 cells", x.sheet(0, 2, 41), CellPacks.BAD);
        check.due("the pack's cells are others", x.rule(0), 2);
        check.due("cell 0 of the sheet", x.lay(0, 0, 1), 1);
        check.due("cell 0 of the pack", x.cell(0, 0), 5);
    }

    private void nothingAtFirst() {
        CellPacks x = new CellPacks();
        check.dueEach("lay on sheet", -11, k -> x.lay(k, 0, 0), 0, 1, 2, 3);
        check.due("cells of sheet 0", x.count(3), CellPacks.NONE);
        x.sheet(0, 0, 0);
        check.due("no cells are not nothing", x.count(3), 0);
    }

    private void faultNull() {
        CellPacks x = Check.told("cells 5 6;");
        check.due("lay", x.lay(0, 0, 0), -11);
        for (int lane = 0; lane < 3; lane++) {
            check.due("read", x.read(0, lane, 0, 1), 0);
            check.due("torn", x.torn(), 1);
        }
    }

    private void faultIndex() {
        CellPacks x = Check.told("cells 5 6;");
        x.sheet(0, 0, 2);
        check.dueEach("lay at", -12, i -> x.lay(0, i, 0), -1, 2, Integer.MIN_VALUE, Integer.MAX_VALUE);
        check.due("read", x.read(0, 0, 1, 1), 0);
        check.due("torn", x.torn(), 2);
    }

    private void faultCast() {
        CellPacks x = Check.told("cells 5 6;");
        for (int lane = 0; lane < 3; lane++) {
            x.sheet(0, lane, 2);
            for (int as = 0; as < 3; as++) {
                check.due("read of " + lane + " as of " + as, x.read(0, as, 0, 1), as == lane ? 1 : 0);
                check.due("torn", x.torn(), as == lane ? 0 : 3);
            }
        }
    }

    private void faultSize() {
        CellPacks x = new CellPacks();
        check.dueEach("sheet of", -14, n -> x.sheet(0, 1, n), -1, -40, Integer.MIN_VALUE);
        check.due("still nothing", x.count(3), CellPacks.NONE);
    }
}
