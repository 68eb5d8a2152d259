/** The sentences of 'Terms' about lowering; TermsSentenceTest runs them. */
final class LoweringCases {
    private LoweringCases() {
    }

    static void tests(Sentences sentences) {
        sentences.test("LOWERING goes through words from the first on, in each through its four bytes, the highest first:",
            LoweringCases::wordsAndBytesInOrder);
        sentences.test("a byte v above 0: with 0 instead. Good: the next byte.",
            LoweringCases::aByteAbove0);
        sentences.test("Else with v / 2 (rounded down), if that is above 0;",
            LoweringCases::halfIfAbove0);
        sentences.test("good: again with v / 2 of that, and so on;",
            LoweringCases::halvesAndSoOn);
        sentences.test("when it is not good or 0: with v - 1, if that is above 0;",
            LoweringCases::oneLessIfAbove0);
        sentences.test("good: again with one less, and so on; when it is not good or 0: the next byte.",
            LoweringCases::oneLessAndSoOn);
        sentences.test("Behind the last byte: when something was lowered since leaving out ended, leaving out begins anew"
            + " with s 1 and p 0",
            LoweringCases::leavingOutAnew);
        sentences.test("(with nothing left in the program: it ends);",
            LoweringCases::nothingLeft);
        sentences.test("else it is LEAST.",
            LoweringCases::least);
    }

    /** A program of one word whose lowering has begun: [] was not good. */
    private static ShortenPrograms lowering(int word) {
        ShortenPrograms x = Runs.begun(600, word);
        x.judge(1);
        x.judge(-1);
        return x;
    }

    /** All programs asked of one word, when those are good whose word is not below the lowest. */
    private static String asksDownTo(int word, int lowest) {
        return Runs.textOfAsks(Runs.begun(600, word), words -> words.length == 1 && words[0] >= lowest ? 1 : -1);
    }

    private static void wordsAndBytesInOrder() {
        ShortenPrograms x = Runs.begun(600, 0x01010101, 0x01000001);
        Checks.due("bytes of 1", Runs.textOfNext(x, 1, -1, -1, -1, -1, -1, -1, -1, -1), "[16777217][16843009]"
            + "[" + 0x00010101 + ", 16777217][" + 0x01000101 + ", 16777217]"
            + "[" + 0x01010001 + ", 16777217][" + 0x01010100 + ", 16777217]"
            + "[16843009, 1][16843009, 16777216]-");
        Runs.feed(x, 0x01000001);
        x.begin();
        Runs.textOfNext(x, 1, -1, -1);
        Checks.due("a program whose last byte is asked", Runs.textOfAsked(x), "[16777216]");
        Runs.feed(x, 0x01000001);
        x.begin();
        Checks.due("a new program then: its highest byte first", Runs.textOfNext(x, 1, -1), "[][1]");
        ShortenPrograms negative = lowering(0x80FFFFFF);
        Checks.due("the highest byte holds the sign", Runs.textOfAsked(negative), "[" + 0x00FFFFFF + "]");
        Checks.due("its half", Runs.textOfNext(negative, -1), "[" + 0x40FFFFFF + "]");
        ShortenPrograms lowest = lowering(0x000000FF);
        Checks.due("the lowest byte of 255", Runs.textOfNext(lowest, -1), "[127]");
    }

    private static void aByteAbove0() {
        ShortenPrograms x = lowering(0xFF000080);
        Checks.due("255 with 0", Runs.textOfAsked(x), "[128]");
        Checks.due("good: the next byte above 0", Runs.textOfNext(x, 1), "[0]");
        Checks.due("one byte was lowered", x.count(6), 1);
        ShortenPrograms one = lowering(0x00010000);
        Checks.due("1 with 0", Runs.textOfAsked(one), "[0]");
        ShortenPrograms zero = Runs.begun(600, 0, 0);
        zero.judge(1);
        Checks.due("bytes of 0 are not asked", zero.judge(-1), 2);
        Checks.due("only one word was left out, once", Runs.textOfCounts(zero), "2 2 2 1 0 0 0 600 1 1");
        ShortenPrograms next = lowering(0x09090000);
        Checks.due("good: no half of it, but the next byte", Runs.textOfNext(next, 1), "[0]");
        Checks.due("that one not good: its half", Runs.textOfNext(next, -1), "[" + 0x00040000 + "]");
    }

    private static void halfIfAbove0() {
        Checks.due("255: 127", Runs.textOfNext(lowering(255), -1), "[127]");
        Checks.due("254: 127", Runs.textOfNext(lowering(254), -1), "[127]");
        Checks.due("3: 1", Runs.textOfNext(lowering(3), -1), "[1]");
        Checks.due("2: 1", Runs.textOfNext(lowering(2), -1), "[1]");
        ShortenPrograms one = lowering(1);
        Checks.due("1: no half, nothing more", Runs.textOfNext(one, -1), "-");
        Checks.due("0 was not taken once more for its half", one.count(3), 0);
        ShortenPrograms two = lowering(0x01000002);
        Checks.due("1: no half, the next byte", Runs.textOfNext(two, -1), "[" + 0x01000000 + "]");
    }

    private static void halvesAndSoOn() {
        Checks.due("255 down to 1", asksDownTo(255, 1), "[255][][0][127][63][31][15][7][3][1]");
        Checks.due("8 down to 1", asksDownTo(8, 1), "[8][][0][4][2][1]");
        ShortenPrograms x = lowering(0x00FF0000);
        Checks.due("in another byte", Runs.textOfNext(x, -1, 1, 1),
            "[" + 0x007F0000 + "][" + 0x003F0000 + "][" + 0x001F0000 + "]");
        Checks.due("each good one counts", x.count(6), 2);
        ShortenPrograms two = lowering(0x09000009);
        Checks.due("good: its half, not the next byte", Runs.textOfNext(two, -1, 1),
            "[" + 0x04000009 + "][" + 0x02000009 + "]");
        Checks.due("leaving out is not begun anew for it", two.count(9), 1);
    }

    private static void oneLessIfAbove0() {
        Checks.due("9, half not good: 8", Runs.textOfNext(lowering(9), -1, -1), "[4][8]");
        Checks.due("9, half good, its half not: 3", Runs.textOfNext(lowering(9), -1, 1, -1), "[4][2][3]");
        ShortenPrograms three = lowering(3);
        Checks.due("3, half not good: 2", Runs.textOfNext(three, -1, -1), "[1][2]");
        ShortenPrograms two = lowering(2);
        Checks.due("2, half not good: 1 is remembered", Runs.textOfNext(two, -1, -1), "[1]-");
        Checks.due("remembered once", two.count(3), 1);
        ShortenPrograms halved = lowering(2);
        Checks.due("2, half good, 0 of it: no one less", Runs.textOfNext(halved, -1, 1), "[1]-");
        // Leaving out anew: [], then 0, are remembered; nothing else is.
        Checks.due("0 is not taken for one less", Runs.textOfCounts(halved), "2 1 4 2 1 0 1 600 1 2");
        ShortenPrograms one = lowering(1);
        one.judge(-1);
        Checks.due("1: no one less", Runs.textOfCounts(one), "2 1 3 0 0 0 0 600 1 1");
    }

    private static void oneLessAndSoOn() {
        Checks.due("9 down to 6", asksDownTo(9, 6), "[9][][0][4][8][7][6][5][3]");
        Checks.due("255 down to 250", asksDownTo(255, 250), "[255][][0][127][254][253][252][251][250][249][125]");
        ShortenPrograms x = lowering(0x09000001);
        Checks.due("8 good, then 7, no half of 8", Runs.textOfNext(x, -1, -1, 1),
            "[" + 0x04000001 + "][" + 0x08000001 + "][" + 0x07000001 + "]");
        Checks.due("7 not good: the next byte", Runs.textOfNext(x, -1), "[" + 0x08000000 + "]");
        ShortenPrograms five = lowering(5);
        Checks.due("5, 4, 3, and 2 is remembered: the next byte, so the end", Runs.textOfNext(five, -1, -1, 1, 1),
            "[2][4][3][1]");
        Checks.due("remembered: 2, then [] and 0 anew", five.count(3), 3);
    }

    private static void leavingOutAnew() {
        ShortenPrograms x = Runs.begun(600, 1, 0x0100, 0x010000, 0x01000000);
        Checks.due("until lowering", Runs.textOfNext(x, 1, -1, -1, -1, -1, -1, -1),
            "[65536, 16777216][1, 256]"
            + "[256, 65536, 16777216][1, 65536, 16777216][1, 256, 16777216][1, 256, 65536]"
            + "[0, 256, 65536, 16777216]");
        Checks.due("not begun anew", x.count(9), 1);
        Checks.due("the first word is lowered, no other", Runs.textOfNext(x, 1, -1, -1),
            "[0, 0, 65536, 16777216][0, 256, 0, 16777216][0, 256, 65536, 0]");
        Checks.due("not begun anew before the last byte", x.count(9), 1);
        // Without the first word it was asked before; p 1 is the first that was not.
        Checks.due("anew by ones, not by twos", Runs.textOfNext(x, -1), "[0, 65536, 16777216]");
        Checks.due("p 0 is remembered", Runs.textOfCounts(x), "1 4 12 1 1 0 1 600 1 2");
        ShortenPrograms last = Runs.begun(600, 0, 1);
        Checks.due("lowered at the last byte", Runs.textOfNext(last, 1, -1, -1, 1), "[1][0][0, 0]-");
        Checks.due("begun anew: [0] twice, and nothing to lower", Runs.textOfCounts(last), "2 2 4 2 1 0 1 600 1 2");
    }

    private static void nothingLeft() {
        ShortenPrograms x = Runs.begun(600, 1, 2);
        Checks.due("both lowered, then both left out", Runs.textOfNext(x, 1, -1, -1, 1, 1, 1, 1),
            "[2][1][0, 2][0, 0][0][]-");
        Checks.due("it ends", Runs.textOfCounts(x), "2 0 7 0 4 2 2 600 1 2");
        Checks.dueThrow("nothing is asked", IllegalStateException.class, () -> x.size());
        ShortenPrograms pieces = Runs.begun(600, 1, 2, 3, 4, 5, 6, 7);
        Checks.due("all left out by pieces of 3", Runs.textOfNext(pieces, 1, 1, 1, 1), "[4, 5, 6, 7][7][]-");
        Checks.due("it ends too", Runs.textOfCounts(pieces), "2 0 4 0 3 7 0 600 1 1");
    }

    private static void least() {
        ShortenPrograms nothing = lowering(1);
        Checks.due("nothing lowered", nothing.judge(-1), 2);
        Checks.due("begun once", nothing.count(9), 1);
        ShortenPrograms before = Runs.begun(600, 3);
        Runs.textOfAsks(before, words -> words.length == 1 && words[0] >= 2 ? 0 : -1);
        // Lowered to 2; anew; then 0 and 1 (as half, as one less) are remembered as not good.
        Checks.due("something lowered before, nothing since", Runs.textOfCounts(before), "2 1 5 5 1 0 1 600 0 2");
        ShortenPrograms shorter = Runs.begun(600, 0, 0x0100);
        Checks.due("something left out, nothing lowered", Runs.textOfNext(shorter, 1, -1, 1, -1), "[256][0][]-");
        Checks.due("counts", Runs.textOfCounts(shorter), "2 1 4 0 1 1 0 600 1 1");
        ShortenPrograms exactly = Runs.begun(2, 0);
        exactly.judge(0);
        Checks.due("least with the last ask of the budget", exactly.judge(-1), 2);
    }
}
