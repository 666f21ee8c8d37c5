import java.util.Random;

/** Runs of random calls, always the same ones, on the class and on NaivePacks: each answer must be the same. */
final class ModelTest {
    private static final int RUNS = 1500;
    /** A step makes at most a hundred calls more, so that none comes behind the 512th. */
    private static final int CALLS = 410;
    private static final String[] WORDS = {"groups ", "cells ", "floor ", "rate ", "slack ", "cell", ";", "; ", " ", ".", "0", "7 ", "3", "100", "1000"};
    private static final int[] ODD = {Integer.MIN_VALUE, Integer.MAX_VALUE, -2, -1, 1000, 201, 41, 21, 17, 6};

    private final Random random;
    private final CellPacks mine = new CellPacks();
    private final NaivePacks due = new NaivePacks();
    private final StringBuilder told = new StringBuilder();
    private int calls = 0;
    private boolean wrong = false;

    private ModelTest(int seed) {
        random = new Random(seed);
    }

    public static void main(String[] args) {
        int wrong = 0;
        for (int seed = 0; seed < RUNS && wrong < 5; seed++) {
            ModelTest run = new ModelTest(seed);
            run.go();
            if (run.wrong) {
                wrong++;
                System.out.println("ModelTest: seed " + seed + ": " + run.told);
            }
        }
        System.out.println("ModelTest: " + RUNS + " runs, " + wrong + " wrong");
        if (wrong != 0) {
            System.exit(1);
        }
    }

    private void go() {
        boolean small = random.nextBoolean();
        while (calls < CALLS && !wrong) {
            int kind = random.nextInt(20);
            if (kind == 0) {
                aText();
            } else if (kind == 1) {
                aSheet();
            } else if (kind == 2) {
                lookAround();
            } else {
                aCall(random.nextInt(31), small);
            }
        }
    }

    private void check(String call, int got, int want) {
        calls++;
        told.append(call).append(' ').append(got).append("; ");
        if (got != want && !wrong) {
            wrong = true;
            told.append("due is ").append(want);
        }
    }

    /** 0 to n, and at times a number that is out of most bounds. */
    private int about(int n) {
        return random.nextInt(25) == 0 ? ODD[random.nextInt(ODD.length)] : random.nextInt(n + 1);
    }

    private void feed(String s) {
        for (int i = 0; i < s.length(); i++) {
            check("feed", mine.feed(s.charAt(i)), due.feed(s.charAt(i)));
        }
    }

    private void aText() {
        if (random.nextInt(3) == 0) {
            int words = random.nextInt(12);
            for (int i = 0; i < words; i++) {
                feed(WORDS[random.nextInt(WORDS.length)]);
            }
        } else {
            feed("groups " + (random.nextInt(5) == 0 ? about(6) & 7 : 2 + random.nextInt(4)) + ";");
            feed("cells");
            int cells = random.nextInt(random.nextInt(4) == 0 ? 18 : 8) + 1;
            int most = random.nextBoolean() ? 9 : 120;
            for (int i = 0; i < cells; i++) {
                feed(" " + (1 + random.nextInt(most)));
            }
            feed(";" + WORDS[2 + random.nextInt(3)] + random.nextInt(101) + (random.nextInt(6) == 0 ? "" : ";"));
        }
        check("text()", mine.text(), due.text());
        check("fault()", mine.fault(), due.fault());
    }

    private void aSheet() {
        int k = random.nextInt(4);
        int lane = random.nextInt(3);
        int n = random.nextInt(41);
        check("sheet", mine.sheet(k, lane, n), due.sheet(k, lane, n));
        int cells = Math.max(1, due.rule(0));
        int groups = due.rule(1);
        for (int i = 0; i < n; i++) {
            int v = random.nextInt(i % 2 == 0 ? cells : groups) + 256 * random.nextInt(2);
            check("lay", mine.lay(k, i, v), due.lay(k, i, v));
        }
        int f = about(6);
        int times = about(20);
        check("read(" + k + "," + lane + "," + f + "," + times + ")", mine.read(k, lane, f, times), due.read(k, lane, f, times));
        check("torn()", mine.torn(), due.torn());
    }

    /** The whole state, as far as calls tell it. */
    private void lookAround() {
        for (int what = 0; what < 10; what++) {
            check("rule " + what, mine.rule(what), due.rule(what));
        }
        for (int i = 0; i < due.rule(0); i++) {
            for (int what = 0; what < 4; what++) {
                check("cell " + i + "," + what, mine.cell(i, what), due.cell(i, what));
            }
        }
    }

    private void aCall(int which, boolean small) {
        int a = about(16);
        int b = about(6);
        String call = which + "(" + a + "," + b + ")";
        switch (which) {
            case 0: check("feed" + call, mine.feed(a), due.feed(a)); break;
            case 1: check("end" + call, mine.end(a), due.end(a)); break;
            case 2: check("fault" + call, mine.fault(), due.fault()); break;
            case 3: check("rule" + call, mine.rule(a), due.rule(a)); break;
            case 4: check("cell" + call, mine.cell(a, b), due.cell(a, b)); break;
            case 5: check("group" + call, mine.group(b, a % 6), due.group(b, a % 6)); break;
            case 6: aWay(about(4), about(3), a); break;
            case 7: check("bound" + call, mine.bound(b), due.bound(b)); break;
            case 8: check("joined" + call, mine.joined(a), due.joined(a)); break;
            case 9: check("move" + call, mine.move(a, b), due.move(a, b)); break;
            case 10: check("swap" + call, mine.swap(a, b), due.swap(a, b)); break;
            case 11: check("better" + call, mine.better(), due.better()); break;
            case 12: anAdd(small); break;
            case 13: case 14: check("drop" + call, mine.drop(a), due.drop(a)); break;
            case 15: aSet(a); break;
            case 16: aRate(about(3)); break;
            case 17: check("groups" + call, mine.groups(b), due.groups(b)); break;
            case 18: check("bleed" + call, mine.bleed(a), due.bleed(a)); break;
            case 19: aPlan(); break;
            case 20: check("fill" + call, mine.fill(), due.fill()); break;
            case 21: aDraw(small); break;
            case 22: check("keep" + call, mine.keep(b), due.keep(b)); break;
            case 23: check("back" + call, mine.back(b), due.back(b)); break;
            case 24: check("sheet" + call, mine.sheet(b, a % 3, a), due.sheet(b, a % 3, a)); break;
            case 25: check("lay" + call, mine.lay(b, a, a), due.lay(b, a, a)); break;
            case 26: aRead(b, about(3), about(9), about(5)); break;
            case 27: check("torn" + call, mine.torn(), due.torn()); break;
            case 28: check("count" + call, mine.count(b), due.count(b)); break;
            case 29: check("text" + call, mine.text(), due.text()); break;
            default: check("bleed all" + call, mine.bleed(200), due.bleed(200)); break;
        }
    }

    private void aWay(int way, int what, int i) {
        if (way == 3 && due.rule(0) > 7 && due.rule(0) < 10 && random.nextInt(20) != 0) {
            return;
        }
        check("would(" + way + "," + what + ")", mine.would(way, what), due.would(way, what));
        check("where(" + way + "," + i + ")", mine.where(way, i), due.where(way, i));
        check("take(" + way + ")", mine.take(way), due.take(way));
        lookAround();
    }

    private void anAdd(boolean small) {
        int v = small ? about(12) : about(1000);
        check("add(" + v + ")", mine.add(v), due.add(v));
    }

    private void aSet(int i) {
        int v = about(100);
        check("set(" + i + "," + v + ")", mine.set(i, v), due.set(i, v));
    }

    private void aRate(int what) {
        int v = about(101);
        check("rate(" + what + "," + v + ")", mine.rate(what, v), due.rate(what, v));
    }

    private void aPlan() {
        for (int what = -1; what < 4; what++) {
            check("plan(" + what + ")", mine.plan(what), due.plan(what));
        }
        lookAround();
    }

    private void aDraw(boolean small) {
        int seed = random.nextInt();
        int n = small ? about(2) : about(17);
        check("draw(" + seed + "," + n + ")", mine.draw(seed, n), due.draw(seed, n));
    }

    private void aRead(int k, int lane, int f, int n) {
        check("read(" + k + "," + lane + "," + f + "," + n + ")", mine.read(k, lane, f, n), due.read(k, lane, f, n));
        check("torn()", mine.torn(), due.torn());
    }
}
