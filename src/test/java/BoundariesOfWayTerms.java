/** The document's terms of WAYS and BOUND. */
final class BoundariesOfWayTerms {
    private final Check check;

    BoundariesOfWayTerms(Check check) {
        this.check = check;
    }

    void tell(Sentences s) {
        s.holds("2 WAYS to put all CELLS into GROUPS, by CHARGES:", this::byCharges);
        s.holds("0 turns: CELL i is in GROUP i modulo K.", this::turns);
        s.holds("1 weakest: CELLS by CHARGE, the greatest first", this::greatestFirst);
        s.holds("(of alike ones by number),", this::alikeByNumber);
        s.holds("each into the GROUP that has the least by then,", this::leastByThen);
        s.holds("of several the first.", this::firstOfSeveral);
        s.holds("2 differences: PARTS, each of K BUNDLES of CELLS, by order: the one that holds more first,", this::moreFirst);
        s.holds("of alike ones that with the least CELL,", this::alikeBundles);
        s.holds("empty ones last.", this::emptyBundles);
        s.holds("At first each CELL is a PART: it alone, and K less 1 empty ones.", this::partsAtFirst);
        s.holds("DIFFERENCE of a PART: what its first BUNDLE holds less what its last one does.", this::firstLessLast);
        s.holds("Always the two PARTS of greatest DIFFERENCE", this::greatestDifference);
        s.holds("(of alike ones that with the least CELL)", this::alikeParts);
        s.holds("are joined: the first BUNDLE of the one with the last of the other, the second with the last but one, and so on.",
            this::bundlesJoined);
        s.holds("The BUNDLES of the last PART are the GROUPS, by their order.", this::bundlesAreGroups);
        s.holds("3 best (9 CELLS at most, else STATE):", this::nineCells);
        s.holds("of all ways that of greatest least SUM;", this::greatestLeast);
        s.holds("of these that of least greatest SUM;", this::leastGreatest);
        s.holds("of these the first by GROUPS of CELLS 0, 1 and so on.", this::firstByGroups);
        s.holds("BOUND: all CHARGES summed, by K, down:", this::boundDown);
        s.holds("no way has a greater least SUM.", this::boundHolds);
    }

    /** 60 has 10 left: by what cells have, ways 1 and 2 would begin with 50 and 40. */
    private void byCharges() {
        CellPacks full = Check.told("rate 50;cells 60 50 40;");
        CellPacks bled = Check.told("rate 50;cells 60 50 40;");
        check.due("ticks", bled.bleed(200), 1);
        check.due("what cell 0 has", bled.cell(0, 1), 10);
        for (int way = 0; way < 4; way++) {
            for (int i = 0; i < 3; i++) {
                check.due("where(" + way + ", " + i + ")", bled.where(way, i), full.where(way, i));
            }
        }
        check.dueWhere(bled, 1, "011");
        check.dueWhere(bled, 2, "100");
        check.dueWhere(bled, 3, "011");
    }

    private void turns() {
        CellPacks x = new CellPacks();
        x.draw(5, 16);
        x.groups(5);
        check.dueWhere(x, 0, "0123401234012340");
        x.groups(2);
        check.dueWhere(x, 0, "0101010101010101");
    }

    private void greatestFirst() {
        check.dueWhere(Check.told("cells 3 4 5;"), 1, "110");
        check.dueWhere(Check.told("groups 3;cells 1 998 999;"), 1, "210");
        CellPacks x = Check.told("cells 5 9 3;");
        check.dueWhere(x, 1, "101");
        x.set(0, 99);
        check.dueWhere(x, 1, "011");
    }

    private void alikeByNumber() {
        check.dueWhere(Check.told("groups 3;cells 5 9 5;"), 1, "102");
        check.dueWhere(Check.told("groups 5;cells 7 7 7 7 7;"), 1, "01234");
    }

    private void leastByThen() {
        check.dueWhere(Check.told("cells 9 5 3 2;"), 1, "0111");
        check.dueWhere(Check.told("cells 9 5 3 2 1;"), 1, "01110");
    }

    private void firstOfSeveral() {
        check.dueWhere(Check.told("groups 5;cells 7;"), 1, "0");
        check.dueWhere(Check.told("groups 3;cells 3 3 3 1;"), 1, "0120");
        check.dueWhere(Check.told("groups 3;cells 4 3 3 1;"), 1, "0121");
    }

    private void moreFirst() {
        check.dueWhere(Check.told("cells 3 9;"), 2, "10");
        check.dueWhere(Check.told("groups 5;cells 1 2 3 4 5;"), 2, "43210");
    }

    /** 6 and 3 are joined; then 3 more comes to the lesser bundle: 6 and 6, that of cells 0 and 1 first. */
    private void alikeBundles() {
        CellPacks x = Check.told("cells 3 3 6;");
        check.due("the first two", x.joined(0), 200);
        check.dueWhere(x, 2, "001");
        check.dueWhere(Check.told("groups 5;cells 7 7 7 7 7;"), 2, "01234");
    }

    private void emptyBundles() {
        CellPacks x = Check.told("groups 5;cells 1 9;");
        check.due("spread", x.take(2), 9);
        check.dueRow("cells of group", g -> x.group(g, 3), 2, 1, 0, 0, 0);
    }

    private void partsAtFirst() {
        CellPacks one = Check.told("groups 5;cells 7;");
        check.due("nothing to join", one.joined(0), CellPacks.NONE);
        check.dueWhere(one, 2, "0");
        CellPacks x = Check.told("groups 5;cells 5 9 7;");
        check.due("the greatest cells", x.joined(0), 102);
        check.due("all were parts", x.joined(1), 100);
        check.due("none is left", x.joined(2), CellPacks.NONE);
        check.due("no cells, no parts", new CellPacks().joined(0), CellPacks.NONE);
    }

    /** By three, 9 and 8 leave an empty bundle, so the part's difference is 9; by two it is 1. */
    private void firstLessLast() {
        CellPacks three = Check.told("groups 3;cells 9 8 7 6;");
        check.due("9 and 7", three.joined(1), 2);
        check.due("6 and 2", three.joined(2), 300);
        CellPacks two = Check.told("groups 2;cells 9 8 7 6;");
        check.due("7 and 6", two.joined(1), 203);
        check.due("1 and 1", two.joined(2), 2);
    }

    private void greatestDifference() {
        CellPacks x = Check.told("cells 1 2 30 4 50;");
        check.dueRow("joined", x::joined, 402, 203, 201, 100, CellPacks.NONE);
    }

    private void alikeParts() {
        CellPacks x = Check.told("cells 5 5 5 5;");
        check.dueRow("joined", x::joined, 1, 203, 2, CellPacks.NONE);
        CellPacks y = Check.told("cells 1 5 6;");
        check.dueRow("a cell and a part of 1 each", y::joined, 201, 1, CellPacks.NONE);
    }

    /** 9, 8, 7 and 6, 5, 4: the greatest with the least, 13 each. */
    private void bundlesJoined() {
        CellPacks x = Check.told("groups 3;cells 9 8 7 6 5 4;");
        check.dueRow("joined", x::joined, 1, 2, 304, 305, 3);
        check.dueWhere(x, 2, "012210");
        check.due("spread", x.would(2, 1), 0);
    }

    private void bundlesAreGroups() {
        check.dueWhere(Check.told("cells 1 2 4;"), 2, "110");
        check.dueWhere(Check.told("groups 3;cells 1 2 4 8;"), 2, "2210");
    }

    private void nineCells() {
        CellPacks x = new CellPacks();
        for (int n = 1; n <= 16; n++) {
            x.add(n);
            check.due("take of " + n, Math.min(0, x.take(3)), n <= 9 ? 0 : CellPacks.STATE);
            check.due("would of " + n, Math.min(0, x.would(3, 0)), n <= 9 ? 0 : CellPacks.STATE);
            check.due("where of " + n, Math.min(0, x.where(3, 0)), n <= 9 ? 0 : CellPacks.STATE);
        }
        check.due("the best of none", new CellPacks().take(3), 0);
    }

    /** Ways 1 and 2 give 14; 8 and 7 against the rest are alike. */
    private void greatestLeast() {
        CellPacks x = Check.told("cells 8 7 6 5 4;");
        check.due("by the best", x.would(3, 0), 15);
        check.dueWhere(x, 3, "00111");
        CellPacks nine = Check.told("groups 5;cells 11 12 13 14 15 16 17 18 19;");
        check.due("nine by five: 19 alone, the others two by two", nine.would(3, 0), 19);
        check.due("1 to 9 by five, 9 each", Check.told("groups 5;cells 1 2 3 4 5 6 7 8 9;").would(3, 1), 0);
        CellPacks gone = Check.told("cells 1 1 9;");
        gone.drop(2);
        check.dueWhere(gone, 3, "01");
    }

    /** The least is 10 wherever 1 goes: it may not go to 6 and 6. */
    private void leastGreatest() {
        CellPacks x = Check.told("groups 3;cells 6 6 10 10 1;");
        check.due("least", x.would(3, 0), 10);
        check.due("spread", x.would(3, 1), 2);
        check.dueWhere(x, 3, "00121");
        check.dueWhere(Check.told("groups 5;cells 5 5 5;"), 3, "012");
        check.dueWhere(Check.told("groups 3;cells 6 8 7 7;"), 3, "0102");
    }

    private void firstByGroups() {
        check.dueWhere(Check.told("cells 1 1 1 1;"), 3, "0011");
        check.dueWhere(Check.told("cells 1 9 1 9;"), 3, "0011");
        check.dueWhere(Check.told("groups 5;cells 3;"), 3, "0");
        check.dueWhere(Check.told("groups 3;cells 1 2 3;"), 3, "012");
    }

    private void boundDown() {
        check.due("of no cells", new CellPacks().bound(0), 0);
        check.due("1 by 2", Check.told("cells 1;").bound(0), 0);
        check.due("7 by 2", Check.told("cells 3 4;").bound(0), 3);
        check.due("14 by 5", Check.told("groups 5;cells 9 5;").bound(0), 2);
        check.due("15 by 5", Check.told("groups 5;cells 9 6;").bound(0), 3);
        CellPacks most = new CellPacks();
        for (int i = 0; i < 16; i++) {
            most.add(999);
        }
        check.due("15984 by 2", most.bound(0), 7992);
        most.groups(5);
        check.due("15984 by 5", most.bound(0), 3196);
    }

    private void boundHolds() {
        CellPacks x = Check.told("cells 9 8 7 6 5 4 3 2 1;");
        for (int k = 2; k <= 5; k++) {
            x.groups(k);
            for (int way = 0; way < 4; way++) {
                check.dueTrue("way " + way + " of " + k, x.would(way, 0) <= x.bound(0));
            }
            check.due("the best reaches 45 by " + k, x.would(3, 0), 45 / k);
        }
    }
}
