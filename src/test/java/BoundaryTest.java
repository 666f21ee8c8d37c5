import java.io.IOException;

/** Each sentence of the document, told in its words, has a test of its own that fails if it does not hold. */
final class BoundaryTest {
    private static final Check CHECK = new Check("BoundaryTest");

    public static void main(String[] args) throws IOException {
        Sentences sentences = new Sentences(CHECK);
        sentences.section("What it is");
        sentences.passTo("An object is used");
        sentences.holds("An object is used for at most 512 calls after it has been made; what later calls answer is free.",
            BoundaryTest::answersUpToTheLastCall);
        sentences.passSection("The public face");
        sentences.section("Terms");
        new BoundariesOfCells(CHECK).tell(sentences);
        new BoundariesOfTape(CHECK).tell(sentences);
        new BoundariesOfWayTerms(CHECK).tell(sentences);
        new BoundariesOfTickAndSheets(CHECK).tell(sentences);
        new BoundariesOfText(CHECK).tell(sentences);
        new BoundariesOfWays(CHECK).tell(sentences);
        new BoundariesOfHand(CHECK).tell(sentences);
        new BoundariesOfBleeding(CHECK).tell(sentences);
        new BoundariesOfImages(CHECK).tell(sentences);
        sentences.passSection("Not promised");
        sentences.end();
        CHECK.finish();
    }

    /** 160 bytes, 160 that find no room, 95 cells that come and go: the 511th and 512th call are as due. */
    private static void answersUpToTheLastCall() {
        CellPacks x = new CellPacks();
        for (int n = 1; n <= 160; n++) {
            CHECK.due("call " + n, x.feed(' '), n);
        }
        for (int n = 161; n <= 320; n++) {
            CHECK.due("call " + n, x.feed(' '), CellPacks.FULL);
        }
        for (int n = 321; n <= 510; n += 2) {
            CHECK.due("call " + n, x.add(n), 1);
            CHECK.due("call " + (n + 1), x.drop(0), 0);
        }
        CHECK.due("call 511", x.text(), 0);
        CHECK.due("call 512", x.count(2), 0);
    }
}
