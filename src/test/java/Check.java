import java.util.function.IntUnaryOperator;

/** What the tests share: answers compared with those that are due, and texts fed to an object. */
final class Check {
    /** One cause may make thousands of answers wrong: the first ones tell enough. */
    private static final int MOST_TOLD = 40;
    private final String name;
    private String subject = "";
    private int asked = 0;
    private int wrong = 0;

    Check(String name) {
        this.name = name;
    }

    /** What the next answers are about; it is told with those that are wrong. */
    void about(String next) {
        subject = next;
    }

    int asked() {
        return asked;
    }

    void fail(String what) {
        wrong++;
        if (wrong <= MOST_TOLD) {
            System.out.println(name + ": " + (subject.isEmpty() ? "" : "[" + subject + "] ") + what);
        }
    }

    void due(String call, long got, long want) {
        asked++;
        if (got != want) {
            fail(call + " answered " + got + ", due is " + want);
        }
    }

    void dueTrue(String what, boolean holds) {
        due(what, holds ? 1 : 0, 1);
    }

    void dueSame(String what, String got, String want) {
        asked++;
        if (!got.equals(want)) {
            fail(what + " is " + got + ", due is " + want);
        }
    }

    /** The same answer for each of the arguments. */
    void dueEach(String call, int want, IntUnaryOperator asking, int... arguments) {
        for (int argument : arguments) {
            due(call + " of " + argument, asking.applyAsInt(argument), want);
        }
    }

    /** The answers for 0, 1 and so on. */
    void dueRow(String call, IntUnaryOperator asking, int... wants) {
        for (int what = 0; what < wants.length; what++) {
            due(call + " " + what, asking.applyAsInt(what), wants[what]);
        }
    }

    /** The groups of all cells, one figure each. */
    void dueHomes(String when, CellPacks x, String homes) {
        StringBuilder got = new StringBuilder();
        for (int i = 0; i < x.rule(0); i++) {
            got.append(x.cell(i, 2));
        }
        dueSame("row of groups " + when, got.toString(), homes);
    }

    /** The groups that a way would put the cells into, one figure each. */
    void dueWhere(CellPacks x, int way, String homes) {
        for (int i = 0; i < homes.length(); i++) {
            due("where(" + way + ", " + i + ")", x.where(way, i), homes.charAt(i) - '0');
        }
    }

    /** A text on a new object: its answer and its fault. */
    void dueText(String text, int answer, int fault) {
        CellPacks x = new CellPacks();
        type(x, text);
        due("text of '" + text + "'", x.text(), answer);
        due("fault of '" + text + "'", x.fault(), fault);
    }

    void finish() {
        System.out.println(name + ": " + asked + " answers, " + wrong + " wrong");
        if (wrong != 0) {
            System.exit(1);
        }
    }

    static void type(CellPacks x, String text) {
        for (int i = 0; i < text.length(); i++) {
            x.feed(text.charAt(i));
        }
    }

    static CellPacks told(String text) {
        CellPacks x = new CellPacks();
        type(x, text);
        int answer = x.text();
        if (answer < 0) {
            throw new IllegalStateException("the test's text '" + text + "' was refused: " + answer);
        }
        return x;
    }
}
