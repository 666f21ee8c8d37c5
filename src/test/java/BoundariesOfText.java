/** Promises 1 to 8, sentence by sentence. */
final class BoundariesOfText {
    private static final int LOWEST = Integer.MIN_VALUE, HIGHEST = Integer.MAX_VALUE;
    private final Check check;

    BoundariesOfText(Check check) {
        this.check = check;
    }

    void tell(Sentences s) {
        s.section("Promise 1: A new object");
        s.holds("No CELLS;", this::newHasNoCells);
        s.holds("SHEETS of nothing.", this::newHasNoSheets);
        s.section("Promise 2: feed");
        s.holds("A byte (0 to 127) comes behind THE TAPE: how many it has.", this::feedTakesBytes);
        s.holds("BAD;", this::feedBad);
        s.holds("FULL: more than 160.", this::feedFull);
        s.section("Promise 3: end");
        s.holds("THE TAPE keeps its first n bytes: how many it had.", this::endKeeps);
        s.holds("BAD (n above that, too).", this::endBad);
        s.section("Promise 4: text");
        s.holds("THE TAPE (empty then, by a FAULT, too) tells all:", this::textEmptiesTheTape);
        s.holds("how many CELLS;", this::textAnswersCells);
        s.holds("-10 less the place of its FAULT:", this::textAnswersThePlace);
        s.holds("that which was told stays.", this::textWithFaultLeavesAll);
        s.section("Promise 5: fault");
        s.holds("The FAULT of the latest text(); 0.", this::latestFault);
        s.section("Promise 6: rule");
        s.holds("0 CELLS, 1 K, 2 FLOOR, 3 RATE, 4 SLACK, 5 WEAKEST, 6 its SUM, 7 SPREAD, 8 what all CELLS HAVE, 9 CHARGES, summed.",
            this::rules);
        s.holds("BAD.", this::ruleBad);
        s.section("Promise 7: cell");
        s.holds("Of a CELL: 0 CHARGE, 1 what it HAS, 2 its GROUP,", this::cellNumbers);
        s.holds("3 which it is by CHARGE (0: the greatest; of alike ones by number).", this::cellRank);
        s.holds("BAD.", this::cellBad);
        s.section("Promise 8: group");
        s.holds("Of a GROUP: 0 SUM, 1 how many CELLS,", this::groupNumbers);
        s.holds("2 the CELL that HAS most (of several the first; NONE),", this::groupStrongest);
        s.holds("3 its CELLS (bits),", this::groupBits);
        s.holds("4 what its CELLS HAVE above FLOOR, summed (of those that do).", this::groupAboveFloor);
        s.holds("BAD.", this::groupBad);
    }

    private void newHasNoCells() {
        CellPacks x = new CellPacks();
        check.dueRow("rule", x::rule, 0, 2, 0, 10, 5, 0, 0, 0, 0, 0);
        check.dueRow("count", x::count, 0, 2, 0, CellPacks.NONE, 0, CellPacks.NONE);
        check.due("cell 0", x.cell(0, 0), CellPacks.BAD);
        check.due("drop 0", x.drop(0), CellPacks.BAD);
    }

    private void newHasNoSheets() {
        CellPacks x = new CellPacks();
        check.dueEach("lay on sheet", -11, k -> x.lay(k, 0, 0), 0, 1, 2, 3);
        for (int k = 0; k < 4; k++) {
            x.read(k, 0, 0, 1);
            check.due("torn of sheet " + k, x.torn(), 1);
        }
    }

    private void feedTakesBytes() {
        CellPacks x = new CellPacks();
        for (int c = 0; c <= 127; c++) {
            check.due("feed " + c, x.feed(c), c + 1);
        }
        CellPacks y = new CellPacks();
        Check.type(y, "rate 1");
        y.feed('7');
        y.feed(';');
        y.text();
        check.due("behind the others", y.rule(3), 17);
    }

    private void feedBad() {
        CellPacks x = new CellPacks();
        check.dueEach("feed", CellPacks.BAD, x::feed, -1, 128, 256, LOWEST, HIGHEST);
        check.due("none came", x.count(2), 0);
    }

    private void feedFull() {
        CellPacks x = new CellPacks();
        for (int n = 1; n <= 160; n++) {
            check.due("the " + n + "th", x.feed(' '), n);
        }
        check.due("the 161st", x.feed('.'), CellPacks.FULL);
        check.due("it did not come", x.count(2), 160);
        x.end(159);
        check.due("room for one", x.feed('.'), 160);
        check.due("and no more", x.feed('.'), CellPacks.FULL);
        check.due("it came last", x.text(), -169);
        check.due("room again behind a text", x.feed(' '), 1);
    }

    private void endKeeps() {
        CellPacks x = new CellPacks();
        check.due("0 of 0", x.end(0), 0);
        Check.type(x, "rate 7;rate");
        check.due("all of 11", x.end(11), 11);
        check.due("7 of 11", x.end(7), 11);
        check.due("7 are left", x.count(2), 7);
        check.due("the first ones", x.text(), 0);
        check.due("rate", x.rule(3), 7);
        for (int n = 0; n < 160; n++) {
            x.feed('.');
        }
        check.due("160 of 160", x.end(160), 160);
        check.due("0 of 160", x.end(0), 160);
        check.due("none are left", x.count(2), 0);
    }

    private void endBad() {
        CellPacks x = new CellPacks();
        check.dueEach("end of 0 bytes", CellPacks.BAD, x::end, -1, 1, LOWEST, HIGHEST);
        Check.type(x, "rate");
        check.dueEach("end of 4 bytes", CellPacks.BAD, x::end, -1, 5, 160, LOWEST, HIGHEST);
        check.due("all are left", x.count(2), 4);
        x.end(2);
        check.due("what was cut does not come again", x.end(4), CellPacks.BAD);
    }

    private void textEmptiesTheTape() {
        CellPacks x = new CellPacks();
        Check.type(x, "cells 5;");
        x.text();
        check.due("bytes behind a text", x.count(2), 0);
        Check.type(x, "cells 5;#");
        x.text();
        check.due("bytes behind a fault", x.count(2), 0);
        check.due("a text of no bytes", x.text(), 0);
        check.due("tells that there are no cells", x.rule(0), 0);
    }

    private void textAnswersCells() {
        check.dueText("", 0, 0);
        check.dueText("groups 5;", 0, 0);
        check.dueText("cells 5;", 1, 0);
        check.dueText("cells 1 2 3 4 5 6 7 8;cells 1 2 3 4 5 6 7 8;", 16, 0);
    }

    private void textAnswersThePlace() {
        check.dueText("#", -10, 1);
        check.dueText(" #", -11, 1);
        check.dueText(" ".repeat(159) + "#", -169, 1);
        check.dueText(" ".repeat(156) + "rate", -170, 2);
    }

    /** Lines ahead of the fault are not told either. */
    private void textWithFaultLeavesAll() {
        CellPacks x = Picture.busy();
        CellPacks twin = Picture.busy();
        x.end(0);
        twin.end(0);
        Check.type(x, "groups 2;floor 9;rate 9;slack 9;cells 9 9;rate 0;");
        check.due("a text with a fault", x.text(), -52);
        Check.type(twin, "rate 5;rate 5;");
        check.due("another one", twin.text(), -17);
        check.dueSame("all behind it", Picture.of(x), Picture.of(twin));
        CellPacks same = Picture.busy();
        String before = Picture.ofPack(same);
        Check.type(same, "cells");
        check.due("a third one", same.text(), -23);
        check.dueSame("the pack behind it", Picture.ofPack(same), before);
    }

    private void latestFault() {
        CellPacks x = new CellPacks();
        check.due("no text yet", x.fault(), 0);
        String[] texts = {"", "#", "rate", "rate 0;", "rate 5;rate 5;", "cells 1 1 1 1 1 1 1 1 1 1 1 1 1 1 1 1 1;"};
        for (int fault = texts.length - 1; fault >= 0; fault--) {
            Check.type(x, texts[fault]);
            x.text();
            check.due("fault of '" + texts[fault] + "'", x.fault(), fault);
        }
        Check.type(x, "#");
        x.text();
        x.feed(128);
        x.read(0, 0, 0, 1);
        x.add(5);
        check.due("other calls leave it", x.fault(), 1);
    }

    private void rules() {
        CellPacks x = new CellPacks();
        check.dueRow("of no cells", x::rule, 0, 2, 0, 10, 5, 0, 0, 0, 0, 0);
        x.groups(5);
        x.rate(0, 999);
        x.rate(1, 99);
        x.rate(2, 99);
        for (int n = 0; n < 16; n++) {
            x.add(999);
        }
        check.dueRow("of sixteen", x::rule, 16, 5, 999, 99, 99, 1, 2997, 999, 15984, 15984);
        x.rate(0, 0);
        x.bleed(1);
        check.dueRow("of sixteen that bled", x::rule, 16, 5, 0, 99, 99, 1, 2997, 900, 15885, 15984);
    }

    private void ruleBad() {
        CellPacks x = Check.told("cells 5 6;");
        check.dueEach("rule", CellPacks.BAD, x::rule, -1, 10, LOWEST, HIGHEST);
    }

    private void cellNumbers() {
        CellPacks x = Check.told("groups 5;rate 7;cells 999 1 1 1 1 1;");
        x.bleed(1);
        check.dueRow("the first", what -> x.cell(0, what), 999, 992, 0);
        check.dueRow("the last", what -> x.cell(5, what), 1, 1, 0);
        check.dueRow("in the last group", what -> x.cell(4, what), 1, 1, 4);
    }

    private void cellRank() {
        CellPacks x = Check.told("cells 5 7 5 9 7 5;");
        check.dueRow("rank of cell", i -> x.cell(i, 3), 3, 1, 4, 0, 2, 5);
        x.bleed(200);
        check.dueRow("though it bled: rank of cell", i -> x.cell(i, 3), 3, 1, 4, 0, 2, 5);
        CellPacks all = new CellPacks();
        for (int i = 0; i < 16; i++) {
            all.add(5);
        }
        for (int i = 0; i < 16; i++) {
            check.due("of alike ones cell " + i, all.cell(i, 3), i);
        }
    }

    private void cellBad() {
        CellPacks none = new CellPacks();
        check.dueEach("of no cells", CellPacks.BAD, i -> none.cell(i, 0), -1, 0, 1);
        CellPacks x = Check.told("cells 5 6;");
        check.dueEach("cell", CellPacks.BAD, i -> x.cell(i, 0), -1, 2, 16, LOWEST, HIGHEST);
        check.dueEach("what", CellPacks.BAD, what -> x.cell(0, what), -1, 4, LOWEST, HIGHEST);
    }

    private void groupNumbers() {
        CellPacks x = Check.told("groups 5;rate 7;cells 30 1 1 1 1 5;");
        x.bleed(1);
        check.dueRow("the first", what -> x.group(0, what), 28, 2);
        check.dueRow("the last", what -> x.group(4, what), 1, 1);
        x.move(4, 3);
        check.dueRow("of no cells", what -> x.group(4, what), 0, 0);
    }

    private void groupStrongest() {
        CellPacks x = Check.told("rate 3;cells 8 1 9 1 8;");
        check.due("the strongest", x.group(0, 2), 2);
        check.due("of several the first", x.group(1, 2), 1);
        x.bleed(1);
        check.due("by what they have, of several the first", x.group(0, 2), 0);
        check.due("of no cells", new CellPacks().group(0, 2), CellPacks.NONE);
        CellPacks empty = Check.told("floor 0;rate 99;slack 0;cells 9;");
        empty.bleed(1);
        check.due("a cell that has nothing is one", empty.group(0, 2), 0);
    }

    private void groupBits() {
        CellPacks x = new CellPacks();
        check.due("of no cells", x.group(0, 3), 0);
        for (int i = 0; i < 16; i++) {
            x.add(5);
            x.move(i, 1);
        }
        check.due("of all", x.group(1, 3), 65535);
        check.due("of none", x.group(0, 3), 0);
        x.move(0, 0);
        x.move(15, 0);
        check.due("of the first and the last", x.group(0, 3), 32769);
    }

    private void groupAboveFloor() {
        CellPacks x = Check.told("floor 20;cells 19 50 20 50 21 50;");
        check.due("one below, one at, one above", x.group(0, 4), 1);
        check.due("all above", x.group(1, 4), 90);
        x.rate(0, 999);
        check.due("none above", x.group(1, 4), 0);
        x.rate(0, 0);
        check.due("a floor of 0", x.group(0, 4), 60);
        x.bleed(1);
        check.due("by what they have", x.group(1, 4), 140);
        check.due("of no cells", new CellPacks().group(0, 4), 0);
        CellPacks gone = Check.told("cells 30 7 50;");
        gone.drop(2);
        check.due("one that is gone does not count", gone.group(0, 4), 30);
        CellPacks all = new CellPacks();
        all.draw(1, 16);
        check.due("of sixteen", all.group(0, 4) + all.group(1, 4), all.rule(8));
    }

    private void groupBad() {
        CellPacks x = Check.told("groups 3;cells 5 6;");
        check.dueEach("group", CellPacks.BAD, g -> x.group(g, 0), -1, 3, 5, LOWEST, HIGHEST);
        check.dueEach("what", CellPacks.BAD, what -> x.group(0, what), -1, 5, LOWEST, HIGHEST);
    }
}
