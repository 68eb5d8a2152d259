/** The terms: what is asked in which order, what is remembered, and where it ends. */
public final class OrderTest {
    public static void main(String[] args) {
        piecesByHalves();
        pieceOfOddLength();
        goodStaysAtItsPlace();
        lastPieceMayBeShort();
        onceMoreAfterGoodOnes();
        loweringOrder();
        loweringByHalvesThenByOne();
        halfThatIsOneIsNotAskedTwice();
        loweringNegativeWords();
        loweringStartsAtTheFirstByte();
        leavingOutAnew();
        rememberedAmongEqualWords();
        rememberedAreTheSameWords();
        rememberedCostNoAsk();
        spentOnlyAtOneMore();
        emptiedByPieces();
        wholeBudget();
        Checks.end("OrderTest");
    }

    private static int onlyWhole(int[] words, int length) {
        return words.length == length ? 1 : -1;
    }

    private static void piecesByHalves() {
        ShortenPrograms x = Runs.begun(600, 0, 1, 2, 3, 4, 5);
        x.judge(1);
        String asks = "";
        for (int i = 0; i < 8; i++) {
            asks += Runs.textOfAsked(x);
            x.judge(2);
        }
        Checks.due("pieces of 3, then of 1", asks, "[3, 4, 5][0, 1, 2]"
            + "[1, 2, 3, 4, 5][0, 2, 3, 4, 5][0, 1, 3, 4, 5][0, 1, 2, 4, 5][0, 1, 2, 3, 5][0, 1, 2, 3, 4]");
        Checks.due("leaving out began", x.count(9), 1);
    }

    private static void pieceOfOddLength() {
        ShortenPrograms x = Runs.begun(600, 0, 0, 0, 0, 0, 0, 0, 0, 0, 0, 0, 0, 0);
        StringBuilder sizes = new StringBuilder();
        while (x.count(0) == 1) {
            sizes.append(x.size()).append(' ');
            x.judge(onlyWhole(Runs.asked(x), 13));
        }
        // Pieces of 6, 6 and 1 words, then of 3 (the last one of 1), then of 1; equal ones remembered.
        Checks.due("sizes asked of equal words", sizes.toString(), "13 7 12 10 ");
        Checks.due("counts", Runs.textOfCounts(x), "2 13 4 18 0 0 0 600 1 1");
    }

    private static void goodStaysAtItsPlace() {
        ShortenPrograms x = Runs.begun(600, 1, 2, 3, 4, 5, 6, 7, 8);
        String asks = Runs.textOfAsks(x, words -> Runs.holds(words, 3) ? 1 : -1);
        Checks.due("asks that keep 3", asks, "[1, 2, 3, 4, 5, 6, 7, 8]"
            + "[5, 6, 7, 8][1, 2, 3, 4]"
            + "[3, 4][]"
            + "[4][3]"
            + "[0]"
            + "[1][2]");
        Checks.due("counts", Runs.textOfCounts(x), "2 1 10 1 3 7 0 600 1 1");
        Checks.due("left", Runs.textOfCurrent(x), "3@2");
    }

    private static void lastPieceMayBeShort() {
        ShortenPrograms x = Runs.begun(600, 1, 2, 3, 4, 5);
        x.judge(1);
        x.judge(-1);
        x.judge(-1);
        Checks.due("without the last one", Runs.textOfAsked(x), "[1, 2, 3, 4]");
        x.judge(1);
        Checks.due("words left out", x.count(5), 1);
        Checks.due("then pieces of one", Runs.textOfAsked(x), "[2, 3, 4]");
    }

    private static void onceMoreAfterGoodOnes() {
        ShortenPrograms x = Runs.begun(600, 0, 0x100, 0x200);
        x.judge(1);
        x.judge(-1);
        x.judge(-1);
        Checks.due("third of the first going through", Runs.textOfAsked(x), "[0, 256]");
        x.judge(1);
        Checks.due("once more from the first", Runs.textOfAsked(x), "[256]");
        x.judge(-1);
        x.judge(1);
        Checks.due("and once more", Runs.textOfAsked(x), "[]");
        Checks.due("no new beginning", x.count(9), 1);
        Checks.due("no good one in it", x.judge(-1), 2);
        Checks.due("counts", Runs.textOfCounts(x), "2 1 7 0 2 2 0 600 1 1");
    }

    private static void loweringOrder() {
        ShortenPrograms x = Runs.begun(600, 0x01000100, 0x00010001);
        String asks = Runs.textOfAsks(x, words ->
            words.length == 2 && words[0] == 0x01000100 && words[1] == 0x00010001 ? 3 : -1);
        Checks.due("the highest byte of the first word first", asks, "[16777472, 65537][65537][16777472]"
            + "[256, 65537][16777216, 65537][16777472, 1][16777472, 65536]");
        Checks.due("counts", Runs.textOfCounts(x), "2 2 7 0 0 0 0 600 3 1");
    }

    private static void loweringByHalvesThenByOne() {
        ShortenPrograms x = Runs.begun(600, 200);
        String asks = Runs.textOfAsks(x, words -> words.length == 1 && words[0] >= 22 ? 0 : -1);
        // 200 by halves to 25, 12 is not good; by ones to 22; 21 is not; then all over again.
        Checks.due("asks of a byte", asks, "[200][][0][100][50][25][12][24][23][22][21][11]");
        Checks.due("counts", Runs.textOfCounts(x), "2 1 12 3 6 0 6 600 0 2");
        Checks.due("left", Runs.textOfCurrent(x), "22@0");
    }

    private static void halfThatIsOneIsNotAskedTwice() {
        ShortenPrograms two = Runs.begun(600, 2);
        Checks.due("asks of 2", Runs.textOfAsks(two, words -> words.length == 1 && words[0] == 2 ? 0 : -1),
            "[2][][0][1]");
        Checks.due("counts of 2", Runs.textOfCounts(two), "2 1 4 1 0 0 0 600 0 1");
        ShortenPrograms three = Runs.begun(600, 3);
        Checks.due("asks of 3", Runs.textOfAsks(three, words -> words.length == 1 && words[0] >= 2 ? 0 : -1),
            "[3][][0][1][2]");
        Checks.due("counts of 3", Runs.textOfCounts(three), "2 1 5 5 1 0 1 600 0 2");
        ShortenPrograms one = Runs.begun(600, 1);
        Checks.due("asks of 1", Runs.textOfAsks(one, words -> words.length == 1 && words[0] == 1 ? 0 : -1),
            "[1][][0]");
        ShortenPrograms halved = Runs.begun(600, 5);
        Checks.due("asks of 5", Runs.textOfAsks(halved, words -> words.length == 1 && words[0] != 0 ? 0 : -1),
            "[5][][0][2][1]");
        Checks.due("counts of 5", Runs.textOfCounts(halved), "2 1 5 2 2 0 2 600 0 2");
    }

    private static void loweringNegativeWords() {
        ShortenPrograms x = Runs.begun(600, -1);
        x.judge(1);
        x.judge(-1);
        Checks.due("highest byte of -1 to 0", Runs.textOfAsked(x), "[16777215]");
        x.judge(-1);
        Checks.due("highest byte of -1 to half", Runs.textOfAsked(x), "[2147483647]");
        x.judge(-1);
        Checks.due("highest byte of -1 to one less", Runs.textOfAsked(x), "[-16777217]");
        x.judge(1);
        Checks.due("one less again", Runs.textOfAsked(x), "[-33554433]");
        x.judge(-1);
        Checks.due("the next byte", Runs.textOfAsked(x), "[" + 0xFE00FFFF + "]");
        x.judge(1);
        Checks.due("the third byte", Runs.textOfAsked(x), "[" + 0xFE0000FF + "]");
        x.judge(1);
        Checks.due("the lowest byte", Runs.textOfAsked(x), "[" + 0xFE000000 + "]");
        x.judge(1);
        Checks.due("bytes lowered", x.count(6), 4);
        Checks.due("leaving out anew, remembered, then lowering", Runs.textOfCounts(x), "1 1 10 1 4 0 4 600 1 2");
    }

    private static void loweringStartsAtTheFirstByte() {
        ShortenPrograms x = Runs.begun(600, 0, 0x01010101);
        x.judge(1);
        x.judge(-1);
        x.judge(-1);
        Checks.due("highest byte of the second word", Runs.textOfAsked(x), "[0, " + 0x00010101 + "]");
        x.judge(-1);
        x.judge(-1);
        Checks.due("its third byte", Runs.textOfAsked(x), "[0, " + 0x01010001 + "]");
        // A new program in the midst of lowering starts from its own first byte.
        Runs.feed(x, 0x01000001);
        x.begin();
        x.judge(1);
        x.judge(-1);
        Checks.due("highest byte of a new program", Runs.textOfAsked(x), "[1]");
        x.judge(1);
        Checks.due("then its lowest byte", Runs.textOfAsked(x), "[0]");
        x.judge(-1);
        Checks.due("counts", Runs.textOfCounts(x), "2 1 4 2 1 0 1 600 1 2");
    }

    private static void rememberedAreTheSameWords() {
        // [0, 31] and [1, 0] are alike to a mark that is made of 31 times the last and the word.
        ShortenPrograms x = Runs.begun(600, 1, 0, 31);
        x.judge(1);
        x.judge(-1);
        x.judge(-1);
        Checks.due("another program of the same mark", Runs.textOfAsked(x), "[1, 0]");
        Checks.due("is not known", x.known(0, 2, 0, 0), -2);
        Checks.due("nor remembered", x.count(3), 0);
        ShortenPrograms one = Runs.begun(600, -31);
        one.judge(1);
        Checks.due("nor is one of another length", one.count(2), 2);
        ShortenPrograms longer = Runs.begun(600, 1, 2, 3, -31);
        Checks.due("nor is a longer one", Runs.textOfNext(longer, 1, 1, -1), "[3, -31][][-31]");
    }

    private static void leavingOutAnew() {
        ShortenPrograms x = Runs.begun(600, 7, 1, 9, 0);
        // Words can be left out only after the 7 was lowered.
        String asks = Runs.textOfAsks(x, words -> words.length == 4 && words[1] == 1 || words.length > 0
            && words.length < 4 && words[0] == 0 ? 1 : -1);
        Checks.due("asks with leaving out anew", asks, "[7, 1, 9, 0][9, 0][7, 1]"
            + "[1, 9, 0][7, 9, 0][7, 1, 0][7, 1, 9]"
            + "[0, 1, 9, 0][0, 0, 9, 0][0, 1, 0, 0]"
            + "[1, 0, 0][0, 0, 0][0, 0][0][]");
        Checks.due("counts", Runs.textOfCounts(x), "2 1 15 0 5 3 2 600 1 2");
        Checks.due("left", Runs.textOfCurrent(x), "0@0");
    }

    private static void rememberedAmongEqualWords() {
        ShortenPrograms x = Runs.begun(600, 4, 4, 4);
        x.judge(1);
        Checks.due("first", Runs.textOfAsked(x), "[4, 4]");
        x.judge(-1);
        Checks.due("two remembered, then lowering", Runs.textOfAsked(x), "[0, 4, 4]");
        Checks.due("remembered", x.count(3), 2);
        Checks.due("asks", x.count(2), 3);
    }

    private static void rememberedCostNoAsk() {
        // All that is left to ask when the budget is used up was asked before: least, not spent.
        ShortenPrograms x = Runs.begun(4, 2);
        Runs.textOfAsks(x, words -> words.length == 1 && words[0] == 2 ? 0 : -1);
        Checks.due("least with remembered ones", Runs.textOfCounts(x), "2 1 4 1 0 0 0 4 0 1");
        ShortenPrograms y = Runs.begun(3, 2);
        Runs.textOfAsks(y, words -> words.length == 1 && words[0] == 2 ? 0 : -1);
        Checks.due("spent with one ask less", Runs.textOfCounts(y), "3 1 3 0 0 0 0 3 0 1");
    }

    private static void spentOnlyAtOneMore() {
        ShortenPrograms x = Runs.begun(2, 7, 8);
        Checks.due("the second ask is within", x.judge(0), 1);
        Checks.due("good with the last ask, then spent", x.judge(0), 3);
        Checks.due("what it was good for stays", Runs.textOfCurrent(x), "8@1");
        Checks.due("counts", Runs.textOfCounts(x), "3 1 2 0 1 1 0 2 0 1");
    }

    private static void emptiedByPieces() {
        ShortenPrograms x = Runs.begun(600, Runs.upTo(48));
        Checks.due("asks when all are good", sizesWhenAllGood(x), "48 24 0 ");
        Checks.due("counts", Runs.textOfCounts(x), "2 0 3 0 2 48 0 600 9 1");
        Checks.dueThrow("at(0)", IndexOutOfBoundsException.class, () -> x.at(0));
        Checks.dueThrow("from(0)", IndexOutOfBoundsException.class, () -> x.from(0));
        Checks.dueThrow("known", IndexOutOfBoundsException.class, () -> x.known(0, 0, 0, 0));
        ShortenPrograms odd = Runs.begun(600, Runs.upTo(47));
        Checks.due("asks of 47 when all are good", sizesWhenAllGood(odd), "47 24 1 0 ");
    }

    private static void wholeBudget() {
        // More calls than are promised: only that nothing is thrown and that it ends is looked at.
        ShortenPrograms x = Runs.begun(600, new int[48]);
        for (int round = 0; round < 3; round++) {
            for (int k = 0; k < 48; k++) {
                x.feed(-1 - k);
            }
            x.begin();
            x.judge(1);
            int calls = 0;
            while (x.count(0) == 1 && calls < 2000) {
                x.judge(-1);
                calls++;
            }
            Checks.due("it ends with its budget", calls < 2000 ? 1 : 0, 1);
        }
    }

    private static String sizesWhenAllGood(ShortenPrograms x) {
        StringBuilder sizes = new StringBuilder();
        while (x.count(0) == 1) {
            sizes.append(x.size()).append(' ');
            x.judge(9);
        }
        return sizes.toString();
    }
}
