/** Promises 22 to 25: bleed, plan, fill, draw. */
final class BleedTest {
    private static final Check CHECK = new Check("BleedTest");

    public static void main(String[] args) {
        wrongNumbers();
        ticksOneByOne();
        slackIsAllowed();
        floorHolds();
        ticksAtMost();
        groupsAtOnce();
        plans();
        fills();
        draws();
        CHECK.finish();
    }

    private static void wrongNumbers() {
        CellPacks x = Check.told("cells 100 10;");
        CHECK.due("bleed 0", x.bleed(0), CellPacks.BAD);
        CHECK.due("bleed 201", x.bleed(201), CellPacks.BAD);
        CHECK.due("plan -1", x.plan(-1), CellPacks.BAD);
        CHECK.due("plan 3", x.plan(3), CellPacks.BAD);
        CHECK.due("draw 0", x.draw(1, 0), CellPacks.BAD);
        CHECK.due("draw 17", x.draw(1, 17), CellPacks.BAD);
        CHECK.due("nothing was lost", x.rule(8), 110);
        CHECK.due("bleed of no cells", new CellPacks().bleed(200), 0);
        CHECK.due("plan of no cells", new CellPacks().plan(0), 0);
    }

    /** 30 and 25 against 20: the strongest loses, of alike ones the first. */
    private static void ticksOneByOne() {
        CellPacks x = Check.told("rate 5;slack 0;cells 30 20 25;");
        CHECK.due("first tick", x.bleed(1), 1);
        CHECK.due("the strongest lost", x.cell(0, 1), 25);
        CHECK.due("second tick", x.bleed(1), 1);
        CHECK.due("of alike ones the first lost", x.cell(0, 1), 20);
        CHECK.due("the other did not", x.cell(2, 1), 25);
        CHECK.due("third tick", x.bleed(1), 1);
        CHECK.due("then the other", x.cell(2, 1), 20);
        CHECK.due("till it is quiet", x.bleed(200), 4);
        CHECK.due("no spread is left", x.rule(7), 0);
        CHECK.due("quiet", x.bleed(200), 0);
    }

    private static void slackIsAllowed() {
        CellPacks x = Check.told("rate 1;slack 5;cells 26 20;");
        CHECK.due("one above the slack", x.bleed(200), 1);
        CHECK.due("down to it", x.cell(0, 1), 25);
        CellPacks deep = Check.told("rate 99;slack 0;cells 21 20;");
        CHECK.due("a tick may go below the weakest", deep.bleed(1), 1);
        CHECK.due("down to the floor of 0", deep.cell(0, 1), 0);
        CHECK.due("then the other one", deep.bleed(200), 1);
        CHECK.due("all is lost", deep.rule(8), 0);
    }

    private static void floorHolds() {
        CellPacks x = Check.told("floor 18;rate 10;slack 0;cells 40 5 20;");
        CHECK.due("ticks down to the floor", x.bleed(200), 4);
        CHECK.due("the first is at the floor", x.cell(0, 1), 18);
        CHECK.due("the other too", x.cell(2, 1), 18);
        CHECK.due("below its floor from the start", x.cell(1, 1), 5);
        x.rate(0, 999);
        CHECK.due("all are below the floor", x.bleed(1), 0);
    }

    private static void ticksAtMost() {
        CellPacks x = Check.told("rate 1;cells 999 1;");
        CHECK.due("plan stops at 200", x.plan(0), 200);
        CHECK.due("plan loses 200", x.plan(1), 200);
        CHECK.due("plan's spread", x.plan(2), 798);
        CHECK.due("bleed 7", x.bleed(7), 7);
        CHECK.due("bleed 200", x.bleed(200), 200);
        CHECK.due("what it has", x.cell(0, 1), 792);
    }

    /** The least sum is taken ahead of the tick, for all groups. */
    private static void groupsAtOnce() {
        CellPacks x = Check.told("groups 3;rate 30;slack 0;cells 41 42 40;");
        CHECK.due("a tick of two groups", x.bleed(1), 1);
        CHECK.due("group 0", x.group(0, 0), 11);
        CHECK.due("group 1", x.group(1, 0), 12);
        CHECK.due("group 2", x.group(2, 0), 40);
    }

    private static void plans() {
        CellPacks x = Check.told("rate 10;slack 5;cells 60 20 10;");
        x.bleed(1);
        CHECK.due("plan's ticks", x.plan(0), 4);
        CHECK.due("plan's loss is from now on", x.plan(1), 40);
        CHECK.due("plan's spread", x.plan(2), 0);
        CHECK.due("nothing changed", x.cell(0, 1), 50);
        CHECK.due("bleed does as planned", x.bleed(200), 4);
        CHECK.due("spread as planned", x.rule(7), 0);
        CHECK.due("plan when quiet", x.plan(0), 0);
        CHECK.due("loss when quiet", x.plan(1), 0);
    }

    private static void fills() {
        CellPacks x = Check.told("cells 60 20 30;");
        CHECK.due("nothing to fill", x.fill(), 0);
        x.bleed(3);
        CHECK.due("cells that bled", x.count(4), 1);
        CHECK.due("fill", x.fill(), 30);
        CHECK.due("what it has", x.cell(0, 1), 60);
        CHECK.due("none bled", x.count(4), 0);
        CHECK.due("fill of no cells", new CellPacks().fill(), 0);
    }

    /** Seed 1: 1103527590 (bits 16838), 2524885223 (5758), 662824084 (10113). */
    private static void draws() {
        CellPacks x = new CellPacks();
        CHECK.due("draw 3", x.draw(1, 3), 3);
        CHECK.due("first", x.cell(0, 0), 88);
        CHECK.due("second", x.cell(1, 0), 208);
        CHECK.due("third", x.cell(2, 0), 163);
        CHECK.due("what it has", x.cell(2, 1), 163);
        CHECK.dueHomes("into the weakest", x, "010");
        CHECK.due("draw 16 more", x.draw(1, 16), 13);
        CHECK.due("the seed begins anew", x.cell(3, 0), 88);
        CHECK.due("no room", x.draw(1, 1), 0);
        CHECK.due("no room, bad", x.draw(1, 0), CellPacks.BAD);
        CellPacks y = new CellPacks();
        CHECK.due("a seed below 0", y.draw(-1, 1), 1);
        long state = -1L * 1103515245L + 12345L;
        CHECK.due("its charge", y.cell(0, 0), ((state >> 16) & 0x7fffL) % 200 + 50);
        CHECK.due("the lowest seed", y.draw(Integer.MIN_VALUE, 16), 15);
        for (int i = 0; i < 16; i++) {
            CHECK.dueTrue("charge of 50 to 249", y.cell(i, 0) >= 50 && y.cell(i, 0) <= 249);
        }
    }
}
