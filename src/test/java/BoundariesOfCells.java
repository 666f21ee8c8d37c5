import java.util.function.ToIntFunction;

/** The document's terms up to THE TAPE: answers, cells, groups, floor, rate, slack, sums. */
final class BoundariesOfCells {
    private static final int LOWEST = Integer.MIN_VALUE, HIGHEST = Integer.MAX_VALUE;
    private final Check check;

    BoundariesOfCells(Check check) {
        this.check = check;
    }

    void tell(Sentences s) {
        s.holds("Answers: BAD -1 (a number is not as told, there is no such CELL, GROUP, WAY, IMAGE, SHEET),", this::bad);
        s.holds("STATE -2 (as told), FULL -3, NONE -4 (there is none),", this::stateFullNone);
        s.holds("the first that fits;", this::theFirstThatFits);
        s.holds("what is refused changes nothing (but THE TAPE, as told).", this::refusedChangesNothing);
        s.holds("1 CELLS 0 on (16 at most; none at first),", this::sixteenCells);
        s.holds("each of a CHARGE (1 to 999),", this::charges);
        s.holds("and what it HAS (at first its CHARGE), in a GROUP.", this::hasItsChargeAtFirst);
        s.holds("GROUPS 0 to K less 1 (K 2 to 5; 2 at first).", this::groupNumbers);
        s.holds("FLOOR (0 to 999; 0 at first),", () -> rateBounds(0, 0, 999, 0));
        s.holds("RATE (1 to 99; 10 at first),", () -> rateBounds(1, 1, 99, 10));
        s.holds("SLACK (0 to 99; 5 at first).", () -> rateBounds(2, 0, 99, 5));
        s.holds("SUM of a GROUP: what its CELLS HAVE, summed.", this::sums);
        s.holds("WEAKEST: the GROUP of least SUM, of several the first.", this::weakest);
        s.holds("SPREAD: the greatest SUM less the least.", this::spread);
    }

    private void bad() {
        CellPacks x = Check.told("groups 3;cells 5 6;");
        check.due("a number is not as told", x.add(0), -1);
        check.due("no such cell", x.cell(2, 0), -1);
        check.due("no such group", x.group(3, 0), -1);
        check.due("no such way", x.take(4), -1);
        check.due("no such image", x.keep(2), -1);
        check.due("no such sheet", x.sheet(4, 0, 1), -1);
    }

    private void stateFullNone() {
        CellPacks x = new CellPacks();
        check.due("state: no image", x.back(0), -2);
        check.due("none: no cell that has most", x.group(0, 2), -4);
        x.draw(1, 16);
        check.due("full: a 17th cell", x.add(1), -3);
        check.due("state: the best of 16", x.take(3), -2);
    }

    private void theFirstThatFits() {
        CellPacks x = new CellPacks();
        check.due("joined: bad ahead of none", x.joined(-1), CellPacks.BAD);
        check.due("lay: null ahead of index", x.lay(0, -1, 0), -11);
        check.due("sheet: bad ahead of size", x.sheet(4, 0, -1), CellPacks.BAD);
        check.due("sheet: a bad lane ahead of size", x.sheet(0, 3, -1), CellPacks.BAD);
        check.due("back: bad ahead of state", x.back(2), CellPacks.BAD);
        for (int n = 0; n < 160; n++) {
            x.feed('x');
        }
        check.due("feed: bad ahead of full", x.feed(128), CellPacks.BAD);
        x.draw(1, 16);
        check.due("add: bad ahead of full", x.add(1000), CellPacks.BAD);
        check.due("would: bad ahead of state", x.would(3, 3), CellPacks.BAD);
        check.due("where: bad ahead of state", x.where(3, 16), CellPacks.BAD);
    }

    private void refusedChangesNothing() {
        refused("feed(128)", CellPacks.BAD, x -> x.feed(128));
        refused("end(9) of 8", CellPacks.BAD, x -> x.end(9));
        refused("rule(10)", CellPacks.BAD, x -> x.rule(10));
        refused("cell(6, 0)", CellPacks.BAD, x -> x.cell(6, 0));
        refused("group(3, 0)", CellPacks.BAD, x -> x.group(3, 0));
        refused("take(4)", CellPacks.BAD, x -> x.take(4));
        refused("would(1, 3)", CellPacks.BAD, x -> x.would(1, 3));
        refused("where(1, 6)", CellPacks.BAD, x -> x.where(1, 6));
        refused("bound(3)", CellPacks.BAD, x -> x.bound(3));
        refused("joined(5)", CellPacks.NONE, x -> x.joined(5));
        refused("move(0, 3)", CellPacks.BAD, x -> x.move(0, 3));
        refused("swap(0, 6)", CellPacks.BAD, x -> x.swap(0, 6));
        refused("swap(6, 0)", CellPacks.BAD, x -> x.swap(6, 0));
        refused("add(0)", CellPacks.BAD, x -> x.add(0));
        refused("drop(6)", CellPacks.BAD, x -> x.drop(6));
        refused("set(0, 0)", CellPacks.BAD, x -> x.set(0, 0));
        refused("rate(0, 1000)", CellPacks.BAD, x -> x.rate(0, 1000));
        refused("rate(1, 0)", CellPacks.BAD, x -> x.rate(1, 0));
        refused("rate(2, 100)", CellPacks.BAD, x -> x.rate(2, 100));
        refused("groups(6)", CellPacks.BAD, x -> x.groups(6));
        refused("bleed(0)", CellPacks.BAD, x -> x.bleed(0));
        refused("bleed(201)", CellPacks.BAD, x -> x.bleed(201));
        refused("plan(3)", CellPacks.BAD, x -> x.plan(3));
        refused("draw(1, 17)", CellPacks.BAD, x -> x.draw(1, 17));
        refused("keep(2)", CellPacks.BAD, x -> x.keep(2));
        refused("back(2)", CellPacks.BAD, x -> x.back(2));
        refused("sheet(0, 0, 41)", CellPacks.BAD, x -> x.sheet(0, 0, 41));
        refused("sheet(0, 0, -1)", -14, x -> x.sheet(0, 0, -1));
        refused("lay(0, 4, 1)", -12, x -> x.lay(0, 4, 1));
        refused("read(0, 0, 0, 21)", CellPacks.BAD, x -> x.read(0, 0, 0, 21));
        refused("read of 0, 0 and 3, 9", -21, x -> {
            x.sheet(3, 0, 4);
            x.lay(3, 2, 3);
            x.lay(3, 3, 9);
            int answer = x.read(3, 0, 0, 2);
            x.sheet(3, 0, 0);
            return answer;
        }, x -> x.sheet(3, 0, 0));
    }

    private void refused(String call, int answer, ToIntFunction<CellPacks> asking) {
        refused(call, answer, asking, x -> 0);
    }

    /** Of two objects alike, the one that refused must tell the same as the other afterwards. */
    private void refused(String call, int answer, ToIntFunction<CellPacks> asking, ToIntFunction<CellPacks> other) {
        CellPacks asked = Picture.busy();
        CellPacks twin = Picture.busy();
        check.due(call, asking.applyAsInt(asked), answer);
        other.applyAsInt(twin);
        check.dueSame("all behind " + call, Picture.of(asked), Picture.of(twin));
    }

    private void sixteenCells() {
        CellPacks x = new CellPacks();
        check.due("none at first", x.rule(0), 0);
        check.due("no cell 0 at first", x.cell(0, 0), CellPacks.BAD);
        for (int n = 1; n <= 16; n++) {
            check.due("add the " + n + "th", x.add(n), n);
        }
        check.due("a 17th by add", x.add(17), CellPacks.FULL);
        check.due("a 17th by draw", x.draw(1, 1), 0);
        check.due("the first is 0", x.cell(0, 0), 1);
        check.due("the last is 15", x.cell(15, 0), 16);
        check.due("no cell 16", x.cell(16, 0), CellPacks.BAD);
        check.dueText("cells 1 2 3 4 5 6 7 8 9 10 11 12 13 14 15 16;", 16, 0);
        check.dueText("cells 1 2 3 4 5 6 7 8 9 10 11 12 13 14 15 16 17;", -55, 5);
    }

    private void charges() {
        CellPacks x = new CellPacks();
        check.dueEach("add", CellPacks.BAD, x::add, 0, 1000, -1, LOWEST, HIGHEST);
        check.due("add 1", x.add(1), 1);
        check.due("add 999", x.add(999), 2);
        check.dueEach("set", CellPacks.BAD, v -> x.set(0, v), 0, 1000, -1, LOWEST, HIGHEST);
        check.due("set to 999", x.set(0, 999), 1);
        check.due("set to 1", x.set(0, 1), 999);
        check.dueText("cells 1 999;", 2, 0);
        check.dueText("cells 0;", -16, 3);
        check.dueText("cells 1000;", -16, 1);
    }

    private void hasItsChargeAtFirst() {
        CellPacks x = Check.told("groups 5;cells 1 999;");
        x.add(500);
        x.draw(9, 13);
        for (int i = 0; i < 16; i++) {
            check.due("what cell " + i + " has", x.cell(i, 1), x.cell(i, 0));
            check.dueTrue("its group", x.cell(i, 2) >= 0 && x.cell(i, 2) <= 4);
        }
    }

    private void groupNumbers() {
        CellPacks x = new CellPacks();
        check.due("K at first", x.rule(1), 2);
        check.dueEach("groups", CellPacks.BAD, x::groups, 1, 6, 0, -1, LOWEST, HIGHEST);
        for (int k = 2; k <= 5; k++) {
            check.dueTrue("groups " + k, x.groups(k) >= 2);
            check.due("the last group of " + k, x.group(k - 1, 0), 0);
            check.due("one behind it", x.group(k, 0), CellPacks.BAD);
        }
        check.dueText("groups 2;", 0, 0);
        check.dueText("groups 5;", 0, 0);
        check.dueText("groups 1;", -17, 3);
        check.dueText("groups 6;", -17, 3);
    }

    private void rateBounds(int what, int least, int most, int first) {
        CellPacks x = new CellPacks();
        check.due("at first", x.rule(what + 2), first);
        check.dueEach("rate", CellPacks.BAD, v -> x.rate(what, v), least - 1, most + 1, LOWEST, HIGHEST);
        check.due("it stays", x.rule(what + 2), first);
        check.due("the least", x.rate(what, least), first);
        check.due("the most", x.rate(what, most), least);
        check.due("then", x.rule(what + 2), most);
    }

    private void sums() {
        CellPacks x = Check.told("cells 40 10 20;");
        check.due("of two", x.group(0, 0), 60);
        x.bleed(1);
        check.due("by what they have", x.group(0, 0), 50);
        x.move(1, 0);
        check.due("of no cells", x.group(1, 0), 0);
        CellPacks most = new CellPacks();
        for (int i = 0; i < 16; i++) {
            most.add(999);
            most.move(i, 1);
        }
        check.due("of sixteen, the greatest", most.group(1, 0), 15984);
    }

    private void weakest() {
        check.due("of no cells", new CellPacks().rule(5), 0);
        check.due("of alike ones", Check.told("cells 5 5;").rule(5), 0);
        check.due("one less", Check.told("cells 5 4;").rule(5), 1);
        check.due("several that are not the first group", Check.told("groups 5;cells 9 9 4 9 4;").rule(5), 2);
        check.due("the last group alone", Check.told("groups 5;cells 9 9 4 9 3;").rule(5), 4);
        check.due("a group of none", Check.told("groups 5;cells 1 1 1;").rule(5), 3);
    }

    private void spread() {
        check.due("of no cells", new CellPacks().rule(7), 0);
        check.due("of alike ones", Check.told("cells 5 5;").rule(7), 0);
        check.due("the least is no cells", Check.told("groups 3;cells 5 9;").rule(7), 9);
        check.due("first and last group", Check.told("groups 5;cells 1 5 6 7 999;").rule(7), 998);
    }
}
