/** The sentences of promises 7 to 10; PromiseSentenceTest runs them. */
final class LookingCases {
    private LookingCases() {
    }

    static void tests(Sentences sentences) {
        promises7And8(sentences);
        promise9(sentences);
        promise10(sentences);
    }

    private static void promises7And8(Sentences sentences) {
        sentences.section("Promise 7:");
        sentences.test("Word k of what there is (fed, or shortened so far).",
            LookingCases::wordsOfWhatThereIs);
        sentences.test("IndexOutOfBoundsException, when there is none.",
            () -> noSuchWord("at", (x, k) -> x.at(k)));
        sentences.end();
        sentences.section("Promise 8:");
        sentences.test("Which word of the program as it was fed word k of what there is comes from.",
            LookingCases::whereWordsComeFrom);
        sentences.test("IndexOutOfBoundsException, when there is none.",
            () -> noSuchWord("from", (x, k) -> x.from(k)));
        sentences.end();
    }

    private static void promise9(Sentences sentences) {
        sentences.section("Promise 9:");
        sentences.test("What was answered for a program that was asked: the words are those of what there is, but without"
            + " word k (what 0), or with byte b (0 the highest) of word k being v (what 1):",
            LookingCases::withoutAWordOrWithAByte);
        sentences.test("the difference, NONE, or -2, when it was not asked.",
            LookingCases::differenceNoneOrNotAsked);
        sentences.test("IndexOutOfBoundsException, when there is no such word, or (what 1) byte;",
            LookingCases::noSuchWordOrByte);
        sentences.test("IllegalArgumentException, for another what, or v not 0 .. 255 (what 1).",
            LookingCases::anotherWhatOrValue);
        sentences.end();
    }

    private static void promise10(Sentences sentences) {
        sentences.section("Promise 10:");
        sentences.test("State (0), length of what there is (1),", LookingCases::stateAndLength);
        sentences.test("asks so far (2; the one that is asked, too),", LookingCases::asksSoFar);
        sentences.test("remembered ones so far (3),", LookingCases::rememberedSoFar);
        sentences.test("good ones (4; the first one not counted),", LookingCases::goodOnes);
        sentences.test("words left out (5),", LookingCases::wordsLeftOut);
        sentences.test("bytes lowered (6: good ones),", LookingCases::bytesLowered);
        sentences.test("the budget (7),", LookingCases::theBudget);
        sentences.test("the difference (8; NONE before it is told),", LookingCases::theDifference);
        sentences.test("how many times leaving out began (9; not yet while the program itself is asked).",
            LookingCases::timesLeavingOutBegan);
        sentences.test("NONE for another what.", LookingCases::anotherWhat);
        sentences.end();
    }

    private static void wordsOfWhatThereIs() {
        int[] words = Runs.upTo(48);
        words[47] = Integer.MIN_VALUE;
        ShortenPrograms x = Runs.fed(9, words);
        Checks.due("fed: the first", x.at(0), 1);
        Checks.due("fed: the 48th", x.at(47), Integer.MIN_VALUE);
        x.begin();
        x.judge(1);
        Checks.due("while another is asked", x.at(0), 1);
        x.judge(1);
        Checks.due("shortened: the first", x.at(0), 25);
        Checks.due("shortened: the last", x.at(23), Integer.MIN_VALUE);
        ShortenPrograms spent = Runs.begun(2, 5, 6);
        Runs.textOfNext(spent, 1, 1);
        Checks.due("spent", spent.at(0), 6);
        Checks.due("refused", Runs.refused().at(1), 6);
    }

    interface Look {
        int at(ShortenPrograms x, int k);
    }

    private static void noSuchWord(String call, Look look, ShortenPrograms x, int k) {
        Checks.dueRefused(call + "(" + k + ") of " + x.count(1), IndexOutOfBoundsException.class, x,
            () -> look.at(x, k));
    }

    private static void noSuchWord(String call, Look look) {
        noSuchWord(call, look, new ShortenPrograms(9), 0);
        noSuchWord(call, look, new ShortenPrograms(9), -1);
        ShortenPrograms x = Runs.fed(9, 5, 6);
        noSuchWord(call, look, x, -1);
        noSuchWord(call, look, x, 2);
        noSuchWord(call, look, x, 48);
        noSuchWord(call, look, x, Integer.MIN_VALUE);
        noSuchWord(call, look, x, Integer.MAX_VALUE);
        x.begin();
        Runs.textOfNext(x, 1, 1);
        noSuchWord(call, look, x, 1);
        x.judge(1);
        noSuchWord(call, look, x, 0);
        noSuchWord(call, look, Runs.fed(9, Runs.upTo(48)), 48);
        noSuchWord(call, look, Runs.refused(), 2);
    }

    private static void whereWordsComeFrom() {
        ShortenPrograms x = Runs.fed(9, 7, 7, 7, 7);
        Checks.due("fed: the last", x.from(3), 3);
        x.begin();
        Runs.textOfNext(x, 1, -1);
        Checks.due("equal words: p 0 of s 1 is asked", Runs.textOfAsked(x), "[7, 7, 7]");
        x.judge(1);
        Checks.due("equal words: the first was left out", Runs.textOfCurrent(x), "7@1 7@2 7@3");
        ShortenPrograms lowered = Runs.begun(9, 1, 2, 3);
        Runs.textOfNext(lowered, 1, -1, 1, -1, -1, 1);
        Checks.due("lowered words come from where they were", Runs.textOfCurrent(lowered), "0@0 3@2");
        lowered.feed(9);
        Checks.due("fed anew", lowered.from(0), 0);
        Checks.due("the 48th", Runs.fed(9, Runs.upTo(48)).from(47), 47);
    }

    /** Without each word NONE, 5, 6; then the lowest byte of the first word with 0: 7; with 1: 8. */
    private static ShortenPrograms someAnswered() {
        ShortenPrograms x = Runs.begun(600, 3, 4, 0xFF000005);
        Runs.textOfNext(x, 2, -1, 5, 6, 7, 8);
        return x;
    }

    private static void withoutAWordOrWithAByte() {
        ShortenPrograms x = someAnswered();
        Checks.due("without the first word", x.known(0, 0, 0, 0), -1);
        Checks.due("without the second word", x.known(0, 1, 0, 0), 5);
        Checks.due("without the last word", x.known(0, 2, 0, 0), 6);
        Checks.due("what 0: no byte and no value count", x.known(0, 2, 4, 256), 6);
        Checks.due("what 0: no byte and no value count, below", x.known(0, 2, -1, -1), 6);
        Checks.due("the lowest byte 0", x.known(1, 0, 3, 0), 7);
        Checks.due("the lowest byte 1", x.known(1, 0, 3, 1), 8);
        Checks.due("the highest byte as it is: the program itself", x.known(1, 2, 0, 255), 2);
        Checks.due("the lowest byte as it is: the program itself", x.known(1, 2, 3, 5), 2);
        Checks.due("the second byte as it is", x.known(1, 2, 1, 0), 2);
        Checks.due("the third byte as it is", x.known(1, 2, 2, 0), 2);
        x.judge(2);
        Checks.due("2 is what there is", Runs.textOfCurrent(x), "2@0 4@1 -16777211@2");
        Checks.due("of what there is now: back to 3", x.known(1, 0, 3, 3), 2);
        Checks.due("of what there is now: without the first", x.known(0, 0, 0, 0), -1);
        Checks.due("of what there is now: without the second", x.known(0, 1, 0, 0), -2);
        ShortenPrograms one = Runs.begun(9, 4);
        Runs.textOfNext(one, 1, 3);
        Checks.due("without its only word", one.known(0, 0, 0, 0), 3);
        ShortenPrograms full = Runs.begun(600, new int[48]);
        full.judge(1);
        Runs.textOfAsks(full, words -> words.length == 47 ? 9 : -1);
        Checks.due("without the last of 48 words", full.known(0, 47, 0, 0), 9);
    }

    private static void differenceNoneOrNotAsked() {
        ShortenPrograms fed = Runs.fed(9, 5, 6);
        Checks.due("fed", fed.known(0, 0, 0, 0), -2);
        Checks.due("fed: the program itself", fed.known(1, 0, 3, 5), -2);
        fed.begin();
        Checks.due("the program itself asked, not answered", fed.known(1, 0, 3, 5), -2);
        fed.judge(0);
        Checks.due("the difference 0", fed.known(1, 0, 3, 5), 0);
        Checks.due("asked, not answered", fed.known(0, 0, 0, 0), -2);
        fed.judge(Integer.MAX_VALUE);
        Checks.due("the highest difference", fed.known(0, 0, 0, 0), Integer.MAX_VALUE);
        Checks.due("not asked yet", fed.known(1, 1, 3, 0), -2);
        fed.judge(-1);
        Checks.due("NONE", fed.known(0, 1, 0, 0), -1);
        Checks.due("refused", Runs.refused().known(1, 1, 3, 6), -1);
        Checks.due("refused, not asked", Runs.refused().known(0, 1, 0, 0), -2);
        ShortenPrograms spent = Runs.spent();
        Checks.due("spent, answered", spent.known(0, 0, 0, 0), -1);
        Checks.due("spent, not asked any more", spent.known(0, 1, 0, 0), -2);
        Checks.due("least", Runs.least().known(0, 0, 0, 0), -1);
        ShortenPrograms anew = Runs.spent();
        Runs.feed(anew, 5, 6);
        Checks.due("fed anew", anew.known(0, 0, 0, 0), -2);
        anew.begin();
        Checks.due("begun anew", anew.known(0, 0, 0, 0), -2);
    }

    private static void known(Class<? extends RuntimeException> want, ShortenPrograms x, int what, int k, int b, int v) {
        Checks.dueRefused("known(" + what + ", " + k + ", " + b + ", " + v + ")", want, x, () -> x.known(what, k, b, v));
    }

    private static void noSuchWordOrByte() {
        for (int what = 0; what < 2; what++) {
            known(IndexOutOfBoundsException.class, new ShortenPrograms(9), what, 0, 0, 0);
            known(IndexOutOfBoundsException.class, Runs.asking(), what, -1, 0, 0);
            known(IndexOutOfBoundsException.class, Runs.asking(), what, 4, 0, 0);
            known(IndexOutOfBoundsException.class, Runs.asking(), what, Integer.MIN_VALUE, 0, 0);
            known(IndexOutOfBoundsException.class, Runs.asking(), what, Integer.MAX_VALUE, 0, 0);
            known(IndexOutOfBoundsException.class, Runs.fed(9, Runs.upTo(48)), what, 48, 0, 0);
        }
        known(IndexOutOfBoundsException.class, Runs.asking(), 1, 0, -1, 0);
        known(IndexOutOfBoundsException.class, Runs.asking(), 1, 0, 4, 0);
        known(IndexOutOfBoundsException.class, Runs.asking(), 1, 3, Integer.MIN_VALUE, 0);
        known(IndexOutOfBoundsException.class, Runs.asking(), 1, 3, Integer.MAX_VALUE, 0);
        Checks.due("the last word, the highest byte", Runs.asking().known(1, 3, 0, 0), 1);
        Checks.due("the last word, the lowest byte", Runs.asking().known(1, 3, 3, 8), 1);
        Checks.due("no byte for what 0", Runs.asking().known(0, 0, 4, 0), -2);
        ShortenPrograms emptied = Runs.begun(9, 4);
        Runs.textOfNext(emptied, 1, 1);
        known(IndexOutOfBoundsException.class, emptied, 0, 0, 0, 0);
    }

    private static void anotherWhatOrValue() {
        for (int what : new int[] {-1, 2, 10, Integer.MIN_VALUE, Integer.MAX_VALUE}) {
            known(IllegalArgumentException.class, Runs.asking(), what, 0, 0, 0);
            known(IllegalArgumentException.class, Runs.asking(), what, 3, 4, 256);
            known(IndexOutOfBoundsException.class, Runs.asking(), what, 4, 0, 0);
        }
        for (int v : new int[] {-1, 256, Integer.MIN_VALUE, Integer.MAX_VALUE}) {
            known(IllegalArgumentException.class, Runs.asking(), 1, 0, 0, v);
            known(IllegalArgumentException.class, Runs.asking(), 1, 3, 3, v);
            known(IndexOutOfBoundsException.class, Runs.asking(), 1, 3, 4, v);
            Checks.due("no value for what 0", Runs.asking().known(0, 0, 0, v), -2);
        }
        Checks.due("v 0", Runs.asking().known(1, 0, 0, 0), 1);
        Checks.due("v 255", Runs.asking().known(1, 0, 0, 255), -2);
    }

    private static void stateAndLength() {
        ShortenPrograms x = new ShortenPrograms(9);
        Checks.due("empty", x.count(1), 0);
        Runs.feed(x, 5, 6, 7, 8);
        Checks.due("fed", x.count(1), 4);
        Checks.due("state fed", x.count(0), 0);
        x.begin();
        x.judge(1);
        Checks.due("a shorter one is asked", x.count(1), 4);
        x.judge(1);
        Checks.due("it is good", x.count(1), 2);
        Checks.due("state asking", x.count(0), 1);
        x.judge(1);
        Checks.due("nothing left", x.count(1), 0);
        Checks.due("state least", x.count(0), 2);
        Checks.due("full", Runs.fed(9, Runs.upTo(48)).count(1), 48);
        Checks.due("refused", Runs.refused().count(1), 2);
    }

    private static void asksSoFar() {
        ShortenPrograms x = Runs.fed(3, 5, 6);
        Checks.due("fed", x.count(2), 0);
        x.begin();
        Checks.due("the one that is asked, too", x.count(2), 1);
        x.judge(1);
        Checks.due("the second", x.count(2), 2);
        x.judge(-1);
        Checks.due("the third", x.count(2), 3);
        x.judge(-1);
        Checks.due("spent: the one that was one too many is not counted", x.count(2), 3);
        Checks.due("refused", Runs.refused().count(2), 1);
        Checks.due("least", Runs.least().count(2), 2);
        ShortenPrograms remembered = Runs.begun(9, 4, 4, 4);
        Runs.textOfNext(remembered, 1, -1);
        Checks.due("remembered ones are not counted", remembered.count(2), 3);
    }

    private static void rememberedSoFar() {
        ShortenPrograms x = Runs.begun(9, 0, 0, 0);
        x.judge(1);
        Checks.due("none", x.count(3), 0);
        x.judge(-1);
        Checks.due("each time is counted", x.count(3), 2);
        ShortenPrograms spent = Runs.begun(2, 4, 4);
        Runs.textOfNext(spent, 1, -1);
        Checks.due("before it was spent", Runs.textOfCounts(spent), "3 2 2 1 0 0 0 2 1 1");
        ShortenPrograms looked = Runs.asking();
        looked.known(1, 0, 3, 5);
        Checks.due("looking at one is not counted", looked.count(3), 0);
    }

    private static void goodOnes() {
        ShortenPrograms x = Runs.begun(9, 5, 6, 7);
        x.judge(1);
        Checks.due("the first one not counted", x.count(4), 0);
        x.judge(1);
        Checks.due("a shorter one", x.count(4), 1);
        x.judge(-1);
        Checks.due("one that is not good", x.count(4), 1);
        Runs.textOfNext(x, -1, 1);
        Checks.due("a lower one", x.count(4), 2);
        Checks.due("refused", Runs.refused().count(4), 0);
    }

    private static void wordsLeftOut() {
        ShortenPrograms x = Runs.begun(9, Runs.upTo(5));
        x.judge(1);
        x.judge(1);
        Checks.due("two at once", x.count(5), 2);
        x.judge(-1);
        Checks.due("none when it is not good", x.count(5), 2);
        x.judge(1);
        Checks.due("as far as there are: one", x.count(5), 3);
        ShortenPrograms all = Runs.begun(9, Runs.upTo(48));
        Runs.textOfNext(all, 1, 1, 1);
        Checks.due("all of 48", all.count(5), 48);
        ShortenPrograms lowered = Runs.begun(9, 5);
        Runs.textOfNext(lowered, 1, -1, 1);
        Checks.due("none by lowering", lowered.count(5), 0);
    }

    private static void bytesLowered() {
        ShortenPrograms x = Runs.begun(600, 0x0900);
        Runs.textOfNext(x, 1, -1);
        Checks.due("none yet", x.count(6), 0);
        x.judge(-1);
        Checks.due("0 not good", x.count(6), 0);
        x.judge(1);
        Checks.due("the half", x.count(6), 1);
        Runs.textOfNext(x, -1, 1);
        Checks.due("one less of the same byte", x.count(6), 2);
        ShortenPrograms zero = Runs.begun(600, 5, 6);
        Runs.textOfNext(zero, 1, 1);
        Checks.due("none by leaving out", zero.count(6), 0);
        Runs.textOfNext(zero, -1, 1);
        Checks.due("0 is good", zero.count(6), 1);
    }

    private static void theBudget() {
        Checks.due("600", new ShortenPrograms(600).count(7), 600);
        Checks.due("601", new ShortenPrograms(601).count(7), 1);
        ShortenPrograms x = Runs.spent();
        Checks.due("spent: as it was", x.count(7), 2);
        x.feed(1);
        Checks.due("fed anew: as it was", x.count(7), 2);
        Checks.due("asking: as it was", Runs.asking().count(7), 9);
    }

    private static void theDifference() {
        Checks.due("new", new ShortenPrograms(9).count(8), -1);
        ShortenPrograms x = Runs.begun(9, 5, 6);
        Checks.due("begun", x.count(8), -1);
        x.judge(0);
        Checks.due("told: 0", x.count(8), 0);
        x.judge(4);
        Checks.due("another one's is not it", x.count(8), 0);
        x.feed(1);
        Checks.due("fed anew", x.count(8), -1);
        Checks.due("refused", Runs.refused().count(8), -1);
        Checks.due("least", Runs.least().count(8), 1);
        Checks.due("spent", Runs.spent().count(8), 1);
    }

    private static void timesLeavingOutBegan() {
        ShortenPrograms x = Runs.begun(600, 3);
        Checks.due("not yet while the program itself is asked", x.count(9), 0);
        x.judge(1);
        Checks.due("begun", x.count(9), 1);
        Runs.textOfNext(x, -1, -1);
        Checks.due("lowering", x.count(9), 1);
        x.judge(1);
        Checks.due("1 is lowered: anew, then least", Runs.textOfCounts(x), "2 1 4 2 1 0 1 600 1 2");
        Checks.due("refused: never", Runs.refused().count(9), 0);
        ShortenPrograms spent = Runs.begun(1, 3);
        spent.judge(1);
        Checks.due("spent at its first ask", spent.count(9), 1);
        ShortenPrograms pieces = Runs.begun(600, 1, 2, 3, 4);
        Runs.textOfNext(pieces, 1, -1, -1, 1, -1, -1, -1);
        Checks.due("halves and once more are no beginnings", pieces.count(9), 1);
    }

    private static void anotherWhat() {
        for (int what : new int[] {-1, 10, 11, Integer.MIN_VALUE, Integer.MAX_VALUE}) {
            Checks.due("count(" + what + ") of a new one", new ShortenPrograms(9).count(what), -1);
            Checks.due("count(" + what + ") while asking", Runs.asking().count(what), -1);
        }
        ShortenPrograms x = Runs.begun(600, 3);
        Runs.textOfNext(x, 1, -1, -1, 1);
        Checks.due("count(9) is not another", x.count(9), 2);
        Checks.due("count(0) is not another", x.count(0), 2);
    }
}
