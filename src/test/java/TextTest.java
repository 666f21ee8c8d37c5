/** Promises 1 to 8: a new object, feed, end, text, fault, rule, cell, group. */
final class TextTest {
    private static final Check CHECK = new Check("TextTest");

    public static void main(String[] args) {
        newObject();
        feedAndEnd();
        textsThatAreTaken();
        textReplacesAll();
        faultsOfTokens();
        faultsOfPlaces();
        faultsOfBounds();
        faultsOfSeconds();
        faultsOfTooManyCells();
        faultLeavesAllButTheTape();
        rules();
        cells();
        groupsAsked();
        CHECK.finish();
    }

    private static void newObject() {
        CellPacks x = new CellPacks();
        int[] first = {0, 2, 0, 10, 5, 0, 0, 0, 0, 0};
        for (int what = 0; what < first.length; what++) {
            CHECK.due("new: rule " + what, x.rule(what), first[what]);
        }
        int[] counts = {0, 2, 0, CellPacks.NONE, 0, CellPacks.NONE};
        for (int what = 0; what < counts.length; what++) {
            CHECK.due("new: count " + what, x.count(what), counts[what]);
        }
        CHECK.due("new: fault", x.fault(), 0);
        CHECK.due("new: torn", x.torn(), 0);
        for (int k = 0; k < 4; k++) {
            CHECK.due("new: lay on nothing", x.lay(k, 0, 1), -11);
        }
        CHECK.due("new: back", x.back(0), CellPacks.STATE);
        CHECK.due("new: back", x.back(1), CellPacks.STATE);
    }

    private static void feedAndEnd() {
        CellPacks x = new CellPacks();
        CHECK.due("feed -1", x.feed(-1), CellPacks.BAD);
        CHECK.due("feed 128", x.feed(128), CellPacks.BAD);
        CHECK.due("feed 0", x.feed(0), 1);
        CHECK.due("feed 127", x.feed(127), 2);
        CHECK.due("end -1", x.end(-1), CellPacks.BAD);
        CHECK.due("end 3 of 2", x.end(3), CellPacks.BAD);
        CHECK.due("end 2 of 2", x.end(2), 2);
        CHECK.due("end 1 of 2", x.end(1), 2);
        CHECK.due("end 0 of 1", x.end(0), 1);
        CHECK.due("end 0 of 0", x.end(0), 0);
        for (int i = 1; i <= 160; i++) {
            CHECK.due("feed the " + i + "th", x.feed(' '), i);
        }
        CHECK.due("feed the 161st", x.feed(' '), CellPacks.FULL);
        CHECK.due("feed a bad 161st", x.feed(128), CellPacks.BAD);
        CHECK.due("a full tape", x.count(2), 160);
        CHECK.due("end 5 of 160", x.end(5), 160);
        CHECK.due("feed after end", x.feed('x'), 6);
        CHECK.due("text of what end left", x.text(), -15);

        CellPacks y = new CellPacks();
        Check.type(y, "rate 7;rate 8;");
        y.end(7);
        CHECK.due("text of the first line", y.text(), 0);
        CHECK.due("rate of the first line", y.rule(3), 7);
    }

    private static void textsThatAreTaken() {
        CHECK.dueText("", 0, 0);
        CHECK.dueText("   ", 0, 0);
        CHECK.dueText("cells 1;", 1, 0);
        CHECK.dueText("  cells1 2  3;cells 999 001;  ", 5, 0);
        CHECK.dueText("groups2;floor0;rate1;slack0;", 0, 0);
        CHECK.dueText("groups 5 ; floor 999 ; rate 99 ; slack 99 ;", 0, 0);
        CHECK.dueText("cells 1 2 3 4 5 6 7 8 9 10 11 12 13 14 15 16;", 16, 0);
        CHECK.dueText("cells 1 2 3 4 5 6 7 8;cells 9 10 11 12 13 14 15 16;", 16, 0);
        CHECK.dueText("slack 1;rate 2;cells 3;floor 4;groups 5;", 1, 0);
        StringBuilder full = new StringBuilder("slack 77;");
        while (full.length() < 160) {
            full.append(' ');
        }
        CHECK.dueText(full.toString(), 0, 0);

        CellPacks x = Check.told("cells 10 20 30 40;groups 3;cells 50;floor 12;rate 34;slack 56;");
        int[] rules = {5, 3, 12, 34, 56, 2, 30, 40, 150, 150};
        for (int what = 0; what < rules.length; what++) {
            CHECK.due("told: rule " + what, x.rule(what), rules[what]);
        }
        CHECK.dueHomes("told: by turns of the K told behind", x, "01201");
        CHECK.due("told: the tape is empty", x.count(2), 0);
        CHECK.due("text of an empty tape", x.text(), 0);
        CHECK.due("which told no cells", x.rule(0), 0);
    }

    private static void textReplacesAll() {
        CellPacks x = Check.told("groups 4;floor 9;rate 9;slack 9;cells 5 6 7;");
        x.keep(0);
        x.keep(1);
        x.sheet(0, 1, 7);
        x.read(3, 0, 0, 1);
        x.bleed(1);
        Check.type(x, "cells 8 9;");
        CHECK.due("a second text", x.text(), 2);
        int[] rules = {2, 2, 0, 10, 5, 0, 8, 1, 17, 17};
        for (int what = 0; what < rules.length; what++) {
            CHECK.due("second: rule " + what, x.rule(what), rules[what]);
        }
        CHECK.due("images are gone", x.count(0), 0);
        CHECK.due("image 0 is gone", x.back(0), CellPacks.STATE);
        CHECK.due("image 1 is gone", x.back(1), CellPacks.STATE);
        CHECK.due("sheets stay", x.count(3), 7);
        CHECK.due("torn stays", x.torn(), 1);
    }

    private static void faultsOfTokens() {
        CHECK.dueText(".", -10, 1);
        CHECK.dueText("  A", -12, 1);
        CHECK.dueText("cells 1.5;", -17, 1);
        CHECK.dueText("cells 1,2;", -17, 1);
        CHECK.dueText("cells -1;", -16, 1);
        CHECK.dueText("cells\t1;", -15, 1);
        CHECK.dueText("cellS 1;", -10, 2);
        CHECK.dueText("cells 1000;", -16, 1);
        CHECK.dueText("cells 0001;", -16, 1);
        CHECK.dueText("1234", -10, 1);
        CHECK.dueText("rate 1 2345;", -17, 1);
        CHECK.dueText("cells 1;`", -18, 1);
        CHECK.dueText("cells 1;{", -18, 1);
        CHECK.dueText("cells 1;/", -18, 1);
        CHECK.dueText("cells 1;:", -18, 1);
    }

    private static void faultsOfPlaces() {
        CHECK.dueText(";", -10, 2);
        CHECK.dueText("5", -10, 2);
        CHECK.dueText("cell 5;", -10, 2);
        CHECK.dueText("cellsx 5;", -10, 2);
        CHECK.dueText("bells 5;", -10, 2);
        CHECK.dueText("cellt 5;", -10, 2);
        CHECK.dueText("cells", -15, 2);
        CHECK.dueText("cells  ", -17, 2);
        CHECK.dueText("cells ;", -16, 2);
        CHECK.dueText("cells 5", -17, 2);
        CHECK.dueText("cells 5  ", -19, 2);
        CHECK.dueText("cells 5 rate 4;", -18, 2);
        CHECK.dueText("cells 5;;", -18, 2);
        CHECK.dueText("rate", -14, 2);
        CHECK.dueText("rate ;", -15, 2);
        CHECK.dueText("rate rate 5;", -15, 2);
        CHECK.dueText("rate 5", -16, 2);
        CHECK.dueText("rate 5 6;", -17, 2);
        CHECK.dueText("rate 5 rate 6;", -17, 2);
        CHECK.dueText("rate 5;x", -17, 2);
        CHECK.dueText("ratefloor 5;", -10, 2);
        CHECK.dueText("groups 3;z;", -19, 2);
    }

    private static void faultsOfBounds() {
        CHECK.dueText("groups 1;", -17, 3);
        CHECK.dueText("groups 6.", -17, 3);
        CHECK.dueText("groups 0", -17, 3);
        CHECK.dueText("rate 0;", -15, 3);
        CHECK.dueText("rate 100;", -15, 3);
        CHECK.dueText("slack 100;", -16, 3);
        CHECK.dueText("cells 0;", -16, 3);
        CHECK.dueText("cells 5 000 6;", -18, 3);
        CHECK.dueText("floor 999;slack 99;rate 99;groups 5;cells 999;", 1, 0);
    }

    private static void faultsOfSeconds() {
        CHECK.dueText("groups 2;groups 3;", -19, 4);
        CHECK.dueText("floor 2;  floor", -20, 4);
        CHECK.dueText("rate 2;rate 0;", -17, 4);
        CHECK.dueText("slack 2;cells 4;slack", -26, 4);
        CHECK.dueText("cells 2;cells 3;", 2, 0);
    }

    private static void faultsOfTooManyCells() {
        String sixteen = "cells 1 1 1 1 1 1 1 1 1 1 1 1 1 1 1 1";
        CHECK.dueText(sixteen + " 1;", -48, 5);
        CHECK.dueText(sixteen + " 0;", -48, 5);
        CHECK.dueText(sixteen + " 1000;", -48, 1);
        CHECK.dueText(sixteen + ";cells 1;", -54, 5);
        CHECK.dueText(sixteen + ";cells ;", -54, 2);
        CHECK.dueText(sixteen + ";rate 4;", 16, 0);
    }

    private static void faultLeavesAllButTheTape() {
        CellPacks x = Check.told("groups 3;floor 1;rate 2;slack 3;cells 4 5 6 7;");
        x.move(0, 2);
        x.keep(1);
        Check.type(x, "groups 2;floor 9;rate 9;slack 9;cells 9 9;cells");
        CHECK.due("a text with a fault", x.text(), -57);
        CHECK.due("its fault", x.fault(), 2);
        int[] rules = {4, 3, 1, 2, 3, 1, 5, 5, 22, 22};
        for (int what = 0; what < rules.length; what++) {
            CHECK.due("after a fault: rule " + what, x.rule(what), rules[what]);
        }
        CHECK.dueHomes("after a fault", x, "2120");
        CHECK.due("after a fault: images", x.count(0), 1);
        CHECK.due("after a fault: the tape", x.count(2), 0);
        x.text();
        CHECK.due("the fault of a text that was taken", x.fault(), 0);
    }

    private static void rules() {
        CellPacks x = Check.told("groups 3;cells 30 20 20 1;");
        CHECK.due("rule -1", x.rule(-1), CellPacks.BAD);
        CHECK.due("rule 10", x.rule(10), CellPacks.BAD);
        CHECK.due("of several weakest the first", x.rule(5), 1);
        CHECK.due("sum of the weakest", x.rule(6), 20);
        CHECK.due("spread", x.rule(7), 11);
        x.bleed(1);
        CHECK.due("what all have after a tick", x.rule(8), 61);
        CHECK.due("charges after a tick", x.rule(9), 71);
        CHECK.due("spread by what cells have", x.rule(7), 1);
        x.move(1, 2);
        CHECK.due("a group without cells is the weakest", x.rule(5), 1);
        CHECK.due("its sum is 0", x.rule(6), 0);
    }

    private static void cells() {
        CellPacks x = Check.told("cells 5 90 7 90;");
        CHECK.due("cell -1", x.cell(-1, 0), CellPacks.BAD);
        CHECK.due("cell 4 of 4", x.cell(4, 0), CellPacks.BAD);
        CHECK.due("cell what -1", x.cell(0, -1), CellPacks.BAD);
        CHECK.due("cell what 4", x.cell(0, 4), CellPacks.BAD);
        int[] ranks = {3, 0, 2, 1};
        for (int i = 0; i < 4; i++) {
            CHECK.due("rank of cell " + i, x.cell(i, 3), ranks[i]);
        }
        x.bleed(1);
        CHECK.due("charge of a bled cell", x.cell(1, 0), 90);
        CHECK.due("what a bled cell has", x.cell(1, 1), 80);
        CHECK.due("rank is by charge", x.cell(1, 3), 0);
        CHECK.due("group of cell 3", x.cell(3, 2), 1);
    }

    private static void groupsAsked() {
        CellPacks x = Check.told("groups 3;floor 20;cells 30 10 40 30 25;");
        CHECK.due("group -1", x.group(-1, 0), CellPacks.BAD);
        CHECK.due("group 3 of 3", x.group(3, 0), CellPacks.BAD);
        CHECK.due("group what -1", x.group(0, -1), CellPacks.BAD);
        CHECK.due("group what 5", x.group(0, 5), CellPacks.BAD);
        int[][] due = {{60, 2, 0, 9, 20}, {35, 2, 4, 18, 5}, {40, 1, 2, 4, 20}};
        for (int g = 0; g < 3; g++) {
            for (int what = 0; what < 5; what++) {
                CHECK.due("group " + g + ", " + what, x.group(g, what), due[g][what]);
            }
        }
        x.bleed(1);
        CHECK.due("sum after a tick", x.group(0, 0), 50);
        CHECK.due("the strongest after a tick", x.group(0, 2), 3);
        CHECK.due("above the floor after a tick", x.group(0, 4), 10);
        x.move(2, 0);
        int[] empty = {0, 0, CellPacks.NONE, 0, 0};
        for (int what = 0; what < 5; what++) {
            CHECK.due("an empty group, " + what, x.group(2, what), empty[what]);
        }
    }
}
