import java.util.Arrays;

/** All short texts of some tokens and all packs of a few small cells, on the class and on NaivePacks: each answer must be the same. */
final class AllSmallTest {
    private static final Check CHECK = new Check("AllSmallTest");
    private static final String[] TOKENS = {"groups", "cells", "floor", "rate", "slack", "cellsx", "0", "1", "5", "6", "99", "100", "999", "1000", ";", ".", "A"};
    private static final int TOKENS_OF_A_TEXT = 3;
    private static final int MOST_CELLS = 5;
    private static final int GREATEST_CHARGE = 3;

    public static void main(String[] args) {
        textsFrom("", TOKENS_OF_A_TEXT);
        for (int cells = 0; cells <= MOST_CELLS; cells++) {
            packsFrom(new int[cells], 0);
        }
        CHECK.finish();
    }

    private static void textsFrom(String text, int more) {
        aText(text);
        if (more > 0) {
            for (String token : TOKENS) {
                textsFrom(text + token, more - 1);
                textsFrom(text + " " + token, more - 1);
            }
        }
    }

    private static void aText(String text) {
        CellPacks mine = new CellPacks();
        NaivePacks due = new NaivePacks();
        for (char c : text.toCharArray()) {
            mine.feed(c);
            due.feed(c);
        }
        CHECK.about(text);
        CHECK.due("text()", mine.text(), due.text());
        CHECK.due("fault()", mine.fault(), due.fault());
        CHECK.dueEach("rule, less what is due,", 0, what -> mine.rule(what) - due.rule(what), 0, 1, 2, 3, 4, 9);
    }

    private static void packsFrom(int[] charges, int set) {
        if (set == charges.length) {
            for (int k = 2; k <= 5; k++) {
                aPack(charges, k);
            }
            return;
        }
        for (int v = 1; v <= GREATEST_CHARGE; v++) {
            charges[set] = v;
            packsFrom(charges, set + 1);
        }
    }

    private static void aPack(int[] charges, int k) {
        CellPacks mine = new CellPacks();
        NaivePacks due = new NaivePacks();
        CHECK.about(k + " groups of " + Arrays.toString(charges));
        CHECK.due("groups()", mine.groups(k), due.groups(k));
        for (int v : charges) {
            CHECK.due("add()", mine.add(v), due.add(v));
        }
        for (int i = 0; i <= charges.length; i++) {
            CHECK.due("joined " + i, mine.joined(i), due.joined(i));
        }
        for (int way = 0; way <= 3; way++) {
            askOfWay(mine, due, way);
            CHECK.due("take " + way, mine.take(way), due.take(way));
            bleedABit(mine, due, way);
        }
    }

    private static void askOfWay(CellPacks mine, NaivePacks due, int way) {
        for (int what = 0; what <= 2; what++) {
            CHECK.due("would " + way + ", " + what, mine.would(way, what), due.would(way, what));
            CHECK.due("bound " + what, mine.bound(what), due.bound(what));
        }
        for (int i = 0; i < due.rule(0); i++) {
            CHECK.due("where " + way + ", " + i, mine.where(way, i), due.where(way, i));
        }
    }

    /** Other rates and floors by each way, so that the next one meets cells that have less than their charge. */
    private static void bleedABit(CellPacks mine, NaivePacks due, int way) {
        CHECK.due("better()", mine.better(), due.better());
        CHECK.due("floor", mine.rate(0, way % 2), due.rate(0, way % 2));
        CHECK.due("rate", mine.rate(1, 1 + way), due.rate(1, 1 + way));
        CHECK.due("slack", mine.rate(2, way), due.rate(2, way));
        for (int what = 0; what <= 2; what++) {
            CHECK.due("plan " + what, mine.plan(what), due.plan(what));
        }
        CHECK.due("bleed(1)", mine.bleed(1), due.bleed(1));
        for (int i = 0; i < due.rule(0); i++) {
            CHECK.due("has " + i, mine.cell(i, 1), due.cell(i, 1));
        }
        CHECK.due("better() when bled", mine.better(), due.better());
    }
}
