/** The document's terms of THE TAPE: tokens, lines, faults, and what a text replaces. */
final class BoundariesOfTape {
    private static final String SIXTEEN = "cells 1 1 1 1 1 1 1 1 1 1 1 1 1 1 1 1";
    private final Check check;

    BoundariesOfTape(Check check) {
        this.check = check;
    }

    void tell(Sentences s) {
        s.holds("THE TAPE has 160 bytes, places from 0.", this::places);
        s.holds("TOKENS, each as long as may be,", this::longTokens);
        s.holds("blanks (32) ahead, between, behind, as many as wanted", this::blanks);
        s.holds("(at least one between two NAMES, between two NUMBERS; else none is needed):", this::blanksThatAreNeeded);
        s.holds("NAMES (a .. z),", this::names);
        s.holds("NUMBERS (1 to 3 figures),", this::numbers);
        s.holds("the sign ; (a point is none).", this::signs);
        s.holds("text: { line }", this::lines);
        s.holds("line: groups N ; | cells N { N } ; | floor N ; | rate N ; | slack N ;", this::formsOfLines);
        s.holds("groups: K. cells: CELLS more, of CHARGES. floor, rate, slack: these.", this::whatLinesTell);
        s.holds("FAULTS, the first met as it is read", this::theFirstFault);
        s.holds("(a TOKEN is read when the one before has been taken):", this::tokensAreReadOneByOne);
        s.holds("1 no TOKEN,", this::noToken);
        s.holds("a NUMBER that is too long (its first byte).", this::numberTooLong);
        s.holds("2 a TOKEN that can not stand there", this::misplaced);
        s.holds("(a NAME that begins no line;", this::noSuchLine);
        s.holds("or the end: the length).", this::endOfTape);
        s.holds("3 a NUMBER out of its bounds.", this::outOfBounds);
        s.holds("4 groups, floor, rate, slack for the second time (its NAME).", this::secondTime);
        s.holds("5 the 17th CELL (its NUMBER,", this::seventeenthCell);
        s.holds("ahead of 3).", this::seventeenthAheadOfBounds);
        s.holds("A text that is taken tells all, in place of what there was (what is not told is as at first);", this::tellsAll);
        s.holds("GROUPS are by WAY 0;", this::groupsByTurns);
        s.holds("IMAGES are gone;", this::imagesGo);
        s.holds("SHEETS stay.", this::sheetsStay);
    }

    private static String padded(String text, int length) {
        return " ".repeat(length - text.length()) + text;
    }

    private void places() {
        check.dueText(".", -10, 1);
        check.dueText(padded(".", 160), -169, 1);
        check.dueText(padded("rate 7;", 160), 0, 0);
        CellPacks x = new CellPacks();
        Check.type(x, padded("rate 7;", 160));
        check.due("a 161st byte", x.feed('.'), CellPacks.FULL);
        check.due("which is not read", x.text(), 0);
        check.due("the last line is", x.rule(3), 7);
    }

    private void longTokens() {
        CellPacks x = Check.told("cells 12;cells 345;");
        check.due("two cells, not five", x.rule(0), 2);
        check.due("the first", x.cell(0, 0), 12);
        check.due("the second", x.cell(1, 0), 345);
        check.dueText("ratex 5;", -10, 2);
        check.dueText("rat e 5;", -10, 2);
        check.dueText("cells 1234;", -16, 1);
    }

    private void blanks() {
        check.dueText(padded("", 160), 0, 0);
        check.dueText("   rate   5   ;   slack   5   ;   ", 0, 0);
        check.dueText("rate\t5;", -14, 1);
        check.dueText("rate 5\n;", -16, 1);
        check.dueText("\0rate 5;", -10, 1);
        check.dueText("rate 5;\u001f", -17, 1);
        check.dueText("rate 5;!", -17, 1);
        check.dueText("rate 5;\u007f", -17, 1);
    }

    private void blanksThatAreNeeded() {
        check.dueText("groups3;cells1 2;rate3;floor4;slack5;", 2, 0);
        check.dueText("ratefloor 5;", -10, 2);
        check.dueText("rate floor 5;", -15, 2);
        check.dueText("cells 1 2;", 2, 0);
        check.dueText("cells 12;", 1, 0);
        check.dueText("cells 1rate", -17, 2);
        check.dueText("rate5;6", -16, 2);
    }

    private void names() {
        check.dueText("a", -10, 2);
        check.dueText("z", -10, 2);
        check.dueText("`", -10, 1);
        check.dueText("{", -10, 1);
        check.dueText("A", -10, 1);
        check.dueText("Z", -10, 1);
        check.dueText("Rate 5;", -10, 1);
        check.dueText("rate` 5;", -14, 1);
        check.dueText("rate{ 5;", -14, 1);
    }

    private void numbers() {
        check.dueText("slack 9;", 0, 0);
        check.dueText("slack 09;", 0, 0);
        check.dueText("slack 009;", 0, 0);
        check.dueText("slack 0009;", -16, 1);
        check.due("009 is 9", Check.told("slack 009;").rule(4), 9);
        check.due("090 is 90", Check.told("slack 090;").rule(4), 90);
        check.dueText("slack /;", -16, 1);
        check.dueText("slack :;", -16, 1);
        check.dueText("slack -1;", -16, 1);
    }

    private void signs() {
        check.dueText("rate 5;", 0, 0);
        check.dueText("rate 5.", -16, 1);
        check.dueText("rate 5,", -16, 1);
        check.dueText("rate 5:", -16, 1);
        check.dueText("rate 5<", -16, 1);
    }

    private void lines() {
        check.dueText("", 0, 0);
        check.dueText("rate 5;", 0, 0);
        check.dueText("rate 5;slack 5;floor 5;groups 5;cells 5;", 1, 0);
        check.dueText("cells 1;".repeat(16), 16, 0);
    }

    private void formsOfLines() {
        for (String name : new String[] {"groups", "floor", "rate", "slack"}) {
            int length = name.length();
            check.dueText(name + " 5;", 0, 0);
            check.dueText(name + ";", -10 - length, 2);
            check.dueText(name + " 5 5;", -13 - length, 2);
            check.dueText(name + " 5 " + name + ";", -13 - length, 2);
        }
        check.dueText("cells;", -15, 2);
        check.dueText("cells 5;", 1, 0);
        check.dueText(SIXTEEN + ";", 16, 0);
    }

    private void whatLinesTell() {
        CellPacks x = Check.told("cells 7;groups 4;cells 9 8;floor 6;rate 5;slack 3;");
        check.dueRow("rule", x::rule, 3, 4, 6, 5, 3);
        check.dueRow("charge of cell", i -> x.cell(i, 0), 7, 9, 8);
    }

    private void theFirstFault() {
        check.dueText("rate 0;cells .;", -15, 3);
        check.dueText("cells .;rate 0;", -16, 1);
        check.dueText("cells 0 1000 0;", -16, 3);
        check.dueText("rate 5;rate 0;cell", -17, 4);
        check.dueText("cell;rate 5;rate 5;", -10, 2);
    }

    private void tokensAreReadOneByOne() {
        check.dueText("groups 6.", -17, 3);
        check.dueText("cell.", -10, 2);
        check.dueText("rate 5;rate.", -17, 4);
        check.dueText("cells 0 1000", -16, 3);
        check.dueText("; .", -10, 2);
        check.dueText(SIXTEEN + " 1.", -48, 5);
    }

    private void noToken() {
        check.dueText("rate 5; #", -18, 1);
        check.dueText("rate #;", -15, 1);
        check.dueText("rate 5 #", -17, 1);
        check.dueText("#rate 5;", -10, 1);
        check.dueText("cells 5 #;", -18, 1);
    }

    private void numberTooLong() {
        check.dueText("1000", -10, 1);
        check.dueText("rate 1000;", -15, 1);
        check.dueText("rate 5 1000;", -17, 1);
        check.dueText("cells 5 0005;", -18, 1);
        check.dueText("slack " + "9".repeat(154), -16, 1);
    }

    private void misplaced() {
        check.dueText(";", -10, 2);
        check.dueText("7", -10, 2);
        check.dueText("rate 5;;", -17, 2);
        check.dueText("rate 5;7", -17, 2);
        check.dueText("rate ;", -15, 2);
        check.dueText("rate rate;", -15, 2);
        check.dueText("rate 5 6;", -17, 2);
        check.dueText("cells ;", -16, 2);
        check.dueText("cells cells;", -16, 2);
        check.dueText("cells 5 cells;", -18, 2);
    }

    private void noSuchLine() {
        for (String name : new String[] {"groups", "cells", "floor", "rate", "slack"}) {
            check.dueText(name.substring(1) + " 5;", -10, 2);
            check.dueText(name.substring(0, name.length() - 1) + " 5;", -10, 2);
            check.dueText(name + "s 5;", -10, 2);
            check.dueText("x" + name.substring(1) + " 5;", -10, 2);
            check.dueText(name.substring(0, name.length() - 1) + "x 5;", -10, 2);
            check.dueText("rate 5;" + name + "s 5;", -17, 2);
        }
        check.dueText("x".repeat(160), -10, 2);
    }

    private void endOfTape() {
        check.dueText("rate", -14, 2);
        check.dueText("rate  ", -16, 2);
        check.dueText("rate 5", -16, 2);
        check.dueText("cells", -15, 2);
        check.dueText("cells 5", -17, 2);
        check.dueText("cells 5   ", -20, 2);
        check.dueText(padded("rate 5", 160), -170, 2);
    }

    private void outOfBounds() {
        check.dueText("groups 1;", -17, 3);
        check.dueText("groups 6;", -17, 3);
        check.dueText("groups 999;", -17, 3);
        check.dueText("cells 0;", -16, 3);
        check.dueText("cells 5 000;", -18, 3);
        check.dueText("rate 0;", -15, 3);
        check.dueText("rate 100;", -15, 3);
        check.dueText("slack 100;", -16, 3);
        check.dueText("groups 2;cells 1 999;floor 0;rate 1;slack 0;", 2, 0);
        check.dueText("groups 5;floor 999;rate 99;slack 99;", 0, 0);
    }

    private void secondTime() {
        for (String name : new String[] {"groups", "floor", "rate", "slack"}) {
            String line = name + " 5;";
            check.dueText(line + line, -10 - line.length(), 4);
            check.dueText(line + "cells 1;  " + name, -20 - line.length(), 4);
        }
        check.dueText("groups 5;floor 5;rate 5;slack 5;rate 5;", -42, 4);
        check.dueText("cells 5;cells 5;", 2, 0);
        CellPacks x = Check.told("rate 5;");
        Check.type(x, "rate 6;");
        check.due("another text is no second time", x.text(), 0);
    }

    private void seventeenthCell() {
        check.dueText(SIXTEEN + ";", 16, 0);
        check.dueText(SIXTEEN + "  1;", -49, 5);
        check.dueText(SIXTEEN + ";cells 1;", -54, 5);
        check.dueText("cells 1;".repeat(17), -144, 5);
        CellPacks x = Check.told(SIXTEEN + ";");
        Check.type(x, SIXTEEN + ";");
        check.due("cells of the text before do not count", x.text(), 16);
    }

    private void seventeenthAheadOfBounds() {
        check.dueText(SIXTEEN + " 0;", -48, 5);
        check.dueText(SIXTEEN + ";cells 0;", -54, 5);
        check.dueText(SIXTEEN + " 1000;", -48, 1);
    }

    private void tellsAll() {
        CellPacks x = Picture.busy();
        x.end(0);
        check.due("a text of nothing", x.text(), 0);
        check.dueRow("as at first: rule", x::rule, 0, 2, 0, 10, 5, 0, 0, 0, 0, 0);
        CellPacks y = Check.told("groups 4;floor 7;rate 7;slack 7;cells 40 5 5 5;");
        y.bleed(1);
        Check.type(y, "cells 40;");
        check.due("cells in place of cells", y.text(), 1);
        check.dueRow("rule", y::rule, 1, 2, 0, 10, 5, 1, 0, 40, 40, 40);
    }

    private void groupsByTurns() {
        CellPacks x = Check.told("cells 9 1 1 9 9;groups 3;");
        check.dueHomes("by turns", x, "01201");
        x.move(0, 2);
        Check.type(x, "cells 9 1 1 9 9;");
        x.text();
        check.dueHomes("by turns of two", x, "01010");
    }

    private void imagesGo() {
        CellPacks x = Picture.busy();
        check.due("two ahead", x.count(0), 2);
        x.text();
        check.due("none behind", x.count(0), 0);
        check.dueEach("back", CellPacks.STATE, x::back, 0, 1);
        check.due("keep finds none", x.keep(0), 0);
    }

    private void sheetsStay() {
        CellPacks x = Check.told("cells 5 6;");
        for (int k = 0; k < 4; k++) {
            x.sheet(k, k % 3, 2);
            x.lay(k, 0, 1);
        }
        Check.type(x, "cells 7 8;");
        x.text();
        for (int k = 0; k < 4; k++) {
            x.move(1, 1);
            check.due("read of sheet " + k, x.read(k, k % 3, 0, 1), 1);
            check.due("what it told", x.cell(1, 2), 0);
        }
    }
}
