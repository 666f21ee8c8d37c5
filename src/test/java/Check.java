/** What the tests share: answers compared with those that are due, and texts fed to an object. */
final class Check {
    private final String name;
    private int asked = 0;
    private int wrong = 0;

    Check(String name) {
        this.name = name;
    }

    void due(String call, long got, long want) {
        asked++;
        if (got != want) {
            wrong++;
            System.out.println(name + ": " + call + " answered " + got + ", due is " + want);
        }
    }

    void dueTrue(String what, boolean holds) {
        due(what, holds ? 1 : 0, 1);
    }

    /** The groups of the first cells, one figure each. */
    void dueHomes(String when, CellPacks x, String homes) {
        StringBuilder got = new StringBuilder();
        for (int i = 0; i < x.rule(0); i++) {
            got.append(x.cell(i, 2));
        }
        asked++;
        if (!homes.contentEquals(got)) {
            wrong++;
            System.out.println(name + ": " + when + " the groups are " + got + ", due is " + homes);
        }
    }

    /** A text on a new object: its answer and its fault. */
    void dueText(String text, int answer, int fault) {
        CellPacks x = new CellPacks();
        type(x, text);
        due("text of '" + text + "'", x.text(), answer);
        due("fault of '" + text + "'", x.fault(), fault);
    }

    void finish() {
        System.out.println(name + ": " + asked + " answers, " + wrong + " wrong");
        if (wrong != 0) {
            System.exit(1);
        }
    }

    static void type(CellPacks x, String text) {
        for (int i = 0; i < text.length(); i++) {
            x.feed(text.charAt(i));
        }
    }

    static CellPacks told(String text) {
        CellPacks x = new CellPacks();
        type(x, text);
        int answer = x.text();
        if (answer < 0) {
            throw new IllegalStateException("the test's text '" + text + "' was refused: " + answer);
        }
        return x;
    }
}
