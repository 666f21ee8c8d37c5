import java.math.BigInteger;

/** Promises 22 to 25, sentence by sentence. */
final class BoundariesOfBleeding {
    private static final int LOWEST = Integer.MIN_VALUE, HIGHEST = Integer.MAX_VALUE;
    private final Check check;

    BoundariesOfBleeding(Check check) {
        this.check = check;
    }

    void tell(Sentences s) {
        s.section("Promise 22: bleed");
        s.holds("n TICKS (1 to 200), as long as it is not QUIET: how many there were.", this::bleed);
        s.holds("BAD.", this::bleedBad);
        s.section("Promise 23: plan");
        s.holds("Till it is QUIET, 200 TICKS at most", this::planTicks);
        s.holds("(nothing changes):", this::planChangesNothing);
        s.holds("0 how many there would be, 1 what all CELLS would lose, 2 SPREAD then.", this::plan);
        s.holds("BAD.", this::planBad);
        s.section("Promise 24: fill");
        s.holds("All CELLS HAVE their CHARGES again: how much they had lost.", this::fill);
        s.section("Promise 25: draw");
        s.holds("By a seed, n CELLS more (1 to 16), as long as there is room:", this::drawRoom);
        s.holds("the seed becomes seed times 1103515245 and 12345;", this::drawSeeds);
        s.holds("bits 16 to 30 of it are got:", this::drawBits);
        s.holds("of CHARGE got modulo 200 and 50,", this::drawCharges);
        s.holds("as by add():", this::drawAsByAdd);
        s.holds("how many came.", this::drawAnswers);
        s.holds("BAD.", this::drawBad);
    }

    private void bleed() {
        CellPacks x = Check.told("rate 1;cells 999 1;");
        check.due("1 tick", x.bleed(1), 1);
        check.due("200 ticks", x.bleed(200), 200);
        check.due("what is left", x.cell(0, 1), 798);
        CellPacks few = Check.told("rate 10;slack 5;cells 40 10;");
        check.due("one less than there are", few.bleed(2), 2);
        check.due("the last", few.bleed(200), 1);
        check.due("quiet", few.bleed(1), 0);
        CellPacks as = Check.told("rate 10;slack 5;cells 40 10;");
        check.due("as many as there are", as.bleed(3), 3);
        check.due("quiet", as.bleed(200), 0);
    }

    private void bleedBad() {
        CellPacks x = Check.told("cells 90 1;");
        check.dueEach("bleed", CellPacks.BAD, x::bleed, 0, 201, -1, LOWEST, HIGHEST);
        check.due("nothing is lost", x.rule(8), 91);
    }

    private void planTicks() {
        check.due("206 would be needed", Check.told("rate 1;slack 5;cells 212 1;").plan(0), 200);
        check.due("201", Check.told("rate 1;slack 5;cells 207 1;").plan(0), 200);
        check.due("200", Check.told("rate 1;slack 5;cells 206 1;").plan(0), 200);
        check.due("199", Check.told("rate 1;slack 5;cells 205 1;").plan(0), 199);
        check.due("1", Check.told("rate 1;slack 5;cells 7 1;").plan(0), 1);
        check.due("quiet", Check.told("rate 1;slack 5;cells 6 1;").plan(0), 0);
        check.due("of no cells", new CellPacks().plan(0), 0);
    }

    private void planChangesNothing() {
        CellPacks asked = Picture.busy();
        CellPacks twin = Picture.busy();
        for (int what = 0; what < 3; what++) {
            check.dueTrue("plan", asked.plan(what) >= 0);
        }
        check.dueSame("all behind plan", Picture.of(asked), Picture.of(twin));
    }

    private void plan() {
        CellPacks x = Check.told("rate 10;slack 5;cells 60 20 10;");
        x.bleed(1);
        check.dueRow("from now on", x::plan, 4, 40, 0);
        check.due("bleed does so", x.bleed(200), 4);
        check.due("and what is left", x.rule(8), 40);
        check.dueRow("quiet", x::plan, 0, 0, 0);
        CellPacks most = Check.told("rate 1;cells 999 1;");
        check.dueRow("cut off", most::plan, 200, 200, 798);
        check.dueRow("of no cells", new CellPacks()::plan, 0, 0, 0);
    }

    private void planBad() {
        CellPacks x = Check.told("cells 90 1;");
        check.dueEach("plan", CellPacks.BAD, x::plan, -1, 3, LOWEST, HIGHEST);
    }

    private void fill() {
        check.due("of no cells", new CellPacks().fill(), 0);
        CellPacks x = Check.told("groups 3;rate 99;slack 0;cells 60 20 30;");
        check.due("nothing was lost", x.fill(), 0);
        x.bleed(1);
        check.due("two lost all", x.fill(), 90);
        check.dueRow("has", i -> x.cell(i, 1), 60, 20, 30);
        check.due("nothing more", x.fill(), 0);
        CellPacks most = new CellPacks();
        for (int i = 0; i < 16; i++) {
            most.add(999);
            most.move(i, 0);
        }
        most.rate(1, 99);
        most.bleed(200);
        check.due("sixteen down to the slack", most.fill(), 15984);
        check.due("all again", most.rule(8), 15984);
    }

    private void drawRoom() {
        CellPacks x = new CellPacks();
        check.due("1 into a new pack", x.draw(1, 1), 1);
        check.due("16 into one of 1", x.draw(1, 16), 15);
        check.due("there are", x.rule(0), 16);
        check.due("1 into a full one", x.draw(1, 1), 0);
        check.due("16 into a full one", x.draw(1, 16), 0);
        check.due("there are", x.rule(0), 16);
        x.drop(15);
        check.due("16 into one of 15", x.draw(1, 16), 1);
        check.due("16 into a new pack", new CellPacks().draw(1, 16), 16);
    }

    /** What a seed becomes, of 32 bits without a sign. */
    private static long next(long seed) {
        return BigInteger.valueOf(seed).multiply(BigInteger.valueOf(1103515245)).add(BigInteger.valueOf(12345))
            .mod(BigInteger.ONE.shiftLeft(32)).longValue();
    }

    /** The seed that becomes this. */
    private static int seedOf(long becomes) {
        BigInteger all = BigInteger.ONE.shiftLeft(32);
        return BigInteger.valueOf(becomes - 12345).multiply(BigInteger.valueOf(1103515245).modInverse(all)).mod(all).intValue();
    }

    private static int chargeOf(long state) {
        return (int) (state / 65536 % 32768 % 200) + 50;
    }

    private void drawSeeds() {
        for (int seed : new int[] {0, 1, -1, 2, 65536, LOWEST, HIGHEST, 123456789, -987654321}) {
            CellPacks x = new CellPacks();
            x.draw(seed, 16);
            long state = seed;
            for (int i = 0; i < 16; i++) {
                state = next(state);
                check.due("charge " + i + " of seed " + seed, x.cell(i, 0), chargeOf(state));
            }
        }
        CellPacks again = new CellPacks();
        again.draw(1, 1);
        again.draw(1, 1);
        check.due("each call begins with its seed", again.cell(1, 0), again.cell(0, 0));
    }

    private void dueDrawn(long becomes, int charge) {
        CellPacks x = new CellPacks();
        x.draw(seedOf(becomes), 1);
        check.due("charge by " + Long.toHexString(becomes), x.cell(0, 0), charge);
    }

    private void drawBits() {
        dueDrawn(0x0000ffffL, 50);
        dueDrawn(0x00010000L, 51);
        dueDrawn(0x7fff0000L, 217);
        dueDrawn(0x80000000L, 50);
        dueDrawn(0x8001ffffL, 51);
        dueDrawn(0xffffffffL, 217);
    }

    private void drawCharges() {
        dueDrawn(0L, 50);
        dueDrawn(199L << 16, 249);
        dueDrawn(200L << 16, 50);
        dueDrawn(201L << 16, 51);
        dueDrawn(32599L << 16, 249);
        dueDrawn(32600L << 16, 50);
    }

    private void drawAsByAdd() {
        CellPacks drawn = Check.told("groups 3;rate 99;slack 0;cells 200 90 150;");
        CellPacks added = Check.told("groups 3;rate 99;slack 0;cells 200 90 150;");
        drawn.bleed(1);
        added.bleed(1);
        drawn.draw(7, 13);
        long state = 7;
        for (int i = 0; i < 13; i++) {
            state = next(state);
            added.add(chargeOf(state));
        }
        check.dueSame("the pack", Picture.ofPack(drawn), Picture.ofPack(added));
    }

    private void drawAnswers() {
        CellPacks x = new CellPacks();
        for (int n = 1; n <= 5; n++) {
            check.due("draw " + n, x.draw(n, n), n);
        }
        check.due("draw 6 where there is room for 1", x.draw(6, 6), 1);
    }

    private void drawBad() {
        CellPacks x = new CellPacks();
        check.dueEach("draw", CellPacks.BAD, n -> x.draw(1, n), 0, 17, -1, LOWEST, HIGHEST);
        check.due("none came", x.rule(0), 0);
        x.draw(1, 16);
        check.dueEach("where there is no room", CellPacks.BAD, n -> x.draw(1, n), 0, 17);
    }
}
