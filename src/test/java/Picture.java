import java.util.StringJoiner;

/** An object with something in each of its parts, and all that calls can tell of an object. */
final class Picture {
    private Picture() { }

    /** Cells that bled, two images, sheets of each lane, bytes on the tape, a fault of each kind of reading. */
    static CellPacks busy() {
        CellPacks x = Check.told("groups 3;floor 4;rate 6;slack 7;cells 90 20 30 40 10;");
        x.bleed(2);
        x.keep(0);
        x.move(0, 2);
        x.add(15);
        x.keep(1);
        x.swap(1, 2);
        x.set(4, 11);
        x.sheet(0, 0, 4);
        x.lay(0, 0, 1);
        x.lay(0, 1, 2);
        x.sheet(1, 1, 3);
        x.lay(1, 0, 3);
        x.sheet(2, 2, 2);
        x.lay(2, 1, 1);
        x.read(3, 0, 0, 1);
        Check.type(x, "rate 0;");
        x.text();
        Check.type(x, "cells 7;");
        return x;
    }

    /** K, floor, rate, slack, what cells have, how many there are, a charge: none stays. */
    static void changeAll(CellPacks x) {
        x.groups(5);
        x.rate(0, 9);
        x.rate(1, 9);
        x.rate(2, 9);
        x.fill();
        x.drop(2);
        x.set(0, 77);
    }

    /** Looking at images, sheets and the tape uses them up, so an object is pictured once. */
    static String of(CellPacks x) {
        StringJoiner all = new StringJoiner(" ");
        all.add(ofPack(x)).add("fault " + x.fault()).add("torn " + x.torn());
        for (int what = 0; what < 6; what++) {
            all.add("count " + x.count(what));
        }
        for (int k = 0; k < 2; k++) {
            all.add("image " + x.back(k)).add(ofPack(x));
        }
        for (int k = 0; k < 4; k++) {
            for (int lane = 0; lane < 3; lane++) {
                all.add("sheet " + x.read(k, lane, 0, 1)).add("torn " + x.torn()).add(homes(x));
            }
        }
        all.add("text " + x.text()).add("fault " + x.fault()).add(ofPack(x));
        return all.toString();
    }

    /** The pack alone, by calls that change nothing. */
    static String ofPack(CellPacks x) {
        StringJoiner all = new StringJoiner(" ");
        for (int what = 0; what < 10; what++) {
            all.add("" + x.rule(what));
        }
        for (int i = 0; i < x.rule(0); i++) {
            all.add(x.cell(i, 0) + "/" + x.cell(i, 1) + "/" + x.cell(i, 2));
        }
        return all.toString();
    }

    private static String homes(CellPacks x) {
        StringBuilder all = new StringBuilder();
        for (int i = 0; i < x.rule(0); i++) {
            all.append(x.cell(i, 2));
        }
        return all.toString();
    }
}
