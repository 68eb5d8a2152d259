/** The sentences of promises 1 to 10 (7 to 10 in LookingCases), each with the boundary cases that it names. */
public final class PromiseSentenceTest {
    public static void main(String[] args) {
        Sentences sentences = new Sentences(args);
        promises1To3(sentences);
        promises4To6(sentences);
        LookingCases.tests(sentences);
        Checks.end("PromiseSentenceTest");
    }

    private static void promises1To3(Sentences sentences) {
        sentences.section("Promise 1:");
        sentences.test("The budget is 1 + (asks - 1) modulo 600 (the rest not below 0).",
            PromiseSentenceTest::budgets);
        sentences.test("An empty program, state 0.",
            PromiseSentenceTest::emptyAtFirst);
        sentences.end();
        sentences.section("Promise 2:");
        sentences.test("A word comes behind the others (anything but state 0: a new program, of this one word, is fed,"
            + " and all counts but the budget are as at first): how many.",
            PromiseSentenceTest::behindTheOthersOrNew);
        sentences.test("UnsupportedOperationException, when there are 48 (in state 0).",
            PromiseSentenceTest::fullInState0);
        sentences.end();
        sentences.section("Promise 3:");
        sentences.test("Begins: the program itself is asked.",
            PromiseSentenceTest::theProgramItself);
        sentences.test("IllegalStateException, when the state is not 0, or there are no words.",
            PromiseSentenceTest::beginRefused);
        sentences.end();
    }

    private static void promises4To6(Sentences sentences) {
        sentences.section("Promise 4:");
        sentences.test("Word k of the program that is asked.",
            PromiseSentenceTest::wordsAsked);
        sentences.test("IllegalStateException, when none is;",
            () -> refusedWhenNothingIsAsked("asked(0)", x -> x.asked(0)));
        sentences.test("IndexOutOfBoundsException, when there is none.",
            PromiseSentenceTest::noSuchWordAsked);
        sentences.end();
        sentences.section("Promise 5:");
        sentences.test("How many words the program has that is asked.",
            PromiseSentenceTest::sizes);
        sentences.test("IllegalStateException, when none is.",
            () -> refusedWhenNothingIsAsked("size()", x -> x.size()));
        sentences.end();
        sentences.section("Promise 6:");
        sentences.test("The judge's answer: the state then.",
            PromiseSentenceTest::statesThen);
        sentences.test("IllegalStateException, when none is asked;",
            PromiseSentenceTest::judgeWhenNothingIsAsked);
        sentences.test("IllegalArgumentException, when it is below NONE.",
            PromiseSentenceTest::belowNone);
        sentences.end();
    }

    private static void budget(int asks, int want) {
        Checks.due("budget of " + asks, new ShortenPrograms(asks).count(7), want);
    }

    private static void budgets() {
        budget(1, 1);
        budget(2, 2);
        budget(599, 599);
        budget(600, 600);
        budget(601, 1);
        budget(602, 2);
        budget(1200, 600);
        budget(1201, 1);
        budget(0, 600);
        budget(-1, 599);
        budget(-598, 2);
        budget(-599, 1);
        budget(-600, 600);
        budget(-1199, 1);
        budget(-1200, 600);
        budget(Integer.MAX_VALUE, 247);
        budget(Integer.MIN_VALUE + 1, 353);
        // The words name no wrap-around: one below the lowest int is one below it.
        budget(Integer.MIN_VALUE, 352);
        Checks.due("a budget of 601 is one ask", Runs.begun(601, 5, 6).judge(1), 3);
        Checks.due("a budget of -599 is one ask", Runs.begun(-599, 5, 6).judge(1), 3);
        Checks.due("a budget of 0 is many", Runs.begun(0, 5, 6).judge(1), 1);
    }

    private static void emptyAtFirst() {
        ShortenPrograms x = new ShortenPrograms(9);
        Checks.due("counts", Runs.textOfCounts(x), "0 0 0 0 0 0 0 9 -1 0");
        Checks.dueRefused("at(0)", IndexOutOfBoundsException.class, x, () -> x.at(0));
        Checks.dueRefused("from(0)", IndexOutOfBoundsException.class, x, () -> x.from(0));
        Checks.dueRefused("known(0, 0, 0, 0)", IndexOutOfBoundsException.class, x, () -> x.known(0, 0, 0, 0));
    }

    private static void behindTheOthersOrNew() {
        ShortenPrograms x = new ShortenPrograms(9);
        Checks.due("the first", x.feed(Integer.MIN_VALUE), 1);
        Checks.due("the same once more", x.feed(Integer.MIN_VALUE), 2);
        Checks.due("the third", x.feed(Integer.MAX_VALUE), 3);
        Checks.due("words", Runs.textOfCurrent(x), "-2147483648@0 -2147483648@1 2147483647@2");
        newProgram("the program itself asked", Runs.begun(9, 5, 6));
        newProgram("another asked", Runs.asking());
        newProgram("least", Runs.least());
        newProgram("spent", Runs.spent());
        newProgram("refused", Runs.refused());
        ShortenPrograms lowered = Runs.begun(9, 0x0101, 0x0202);
        Runs.textOfNext(lowered, 1, 1, -1, 1);
        // [] is asked once, and remembered when the pieces of one are gone through once more.
        Checks.due("something of each count", Runs.textOfCounts(lowered), "1 1 5 1 2 1 1 9 1 1");
        newProgram("left out and lowered", lowered);
        ShortenPrograms remembered = Runs.begun(9, 4, 4, 4);
        Runs.textOfNext(remembered, 1, -1);
        Checks.due("some remembered", remembered.count(3), 2);
        newProgram("some remembered", remembered);
        ShortenPrograms emptied = Runs.begun(9, 4);
        Runs.textOfNext(emptied, 1, 1);
        Checks.due("nothing left", emptied.count(1), 0);
        newProgram("nothing left", emptied);
    }

    private static void newProgram(String where, ShortenPrograms x) {
        int budget = x.count(7);
        Checks.due("feed, " + where, x.feed(-77), 1);
        Checks.due("counts, " + where, Runs.textOfCounts(x), "0 1 0 0 0 0 0 " + budget + " -1 0");
        Checks.due("words, " + where, Runs.textOfCurrent(x), "-77@0");
        Checks.due("nothing known, " + where, x.known(1, 0, 3, 0xB3), -2);
        Checks.due("the next is behind it, " + where, x.feed(8), 2);
        Checks.due("words then, " + where, Runs.textOfCurrent(x), "-77@0 8@1");
    }

    private static void fullInState0() {
        ShortenPrograms x = Runs.fed(9, Runs.upTo(47));
        Checks.due("the 48th", x.feed(48), 48);
        Checks.dueRefused("the 49th", UnsupportedOperationException.class, x, () -> x.feed(49));
        Checks.dueThrow("the 49th once more", UnsupportedOperationException.class, () -> x.feed(49));
        Checks.due("the last is still the 48th", x.at(47), 48);
        x.begin();
        Checks.due("48 words, but asking", x.feed(49), 1);
        ShortenPrograms refused = Runs.begun(9, Runs.upTo(48));
        refused.judge(-1);
        Checks.due("48 words, but refused", refused.feed(49), 1);
        Runs.feed(refused, Runs.upTo(47));
        Checks.dueRefused("the 49th anew", UnsupportedOperationException.class, refused, () -> refused.feed(0));
        ShortenPrograms spent = Runs.begun(1, Runs.upTo(48));
        spent.judge(1);
        Checks.due("48 words, but spent", spent.feed(49), 1);
        ShortenPrograms least = Runs.begun(600, new int[48]);
        Runs.textOfAsks(least, words -> words.length == 48 ? 1 : -1);
        Checks.due("48 words, and least", least.count(0) * 100 + least.count(1), 248);
        Checks.due("48 words, but least", least.feed(49), 1);
    }

    private static void theProgramItself() {
        ShortenPrograms x = Runs.fed(9, 4, -5, 4);
        x.begin();
        Checks.due("asked", Runs.textOfAsked(x), "[4, -5, 4]");
        Checks.due("counts", Runs.textOfCounts(x), "1 3 1 0 0 0 0 9 -1 0");
        ShortenPrograms one = Runs.begun(1, 0);
        Checks.due("one word, a budget of one", Runs.textOfAsked(one), "[0]");
        ShortenPrograms full = Runs.begun(9, Runs.upTo(48));
        Checks.due("48 words", full.size(), 48);
    }

    private static void beginRefused() {
        ShortenPrograms empty = new ShortenPrograms(9);
        Checks.dueRefused("begin without words", IllegalStateException.class, empty, () -> empty.begin());
        ShortenPrograms emptied = Runs.begun(9, 4);
        Runs.textOfNext(emptied, 1, 1);
        ShortenPrograms[] begun = {
            Runs.begun(9, 5, 6), Runs.asking(), Runs.least(), Runs.spent(), Runs.refused(), emptied};
        for (ShortenPrograms x : begun) {
            Checks.dueRefused("begin in state " + x.count(0), IllegalStateException.class, x, () -> x.begin());
        }
        for (ShortenPrograms x : begun) {
            x.feed(1);
            x.begin();
            Checks.due("begin behind a feed", x.count(0), 1);
        }
    }

    private static void wordsAsked() {
        ShortenPrograms x = Runs.begun(9, 5, 6, Integer.MIN_VALUE);
        Checks.due("the first", x.asked(0), 5);
        Checks.due("the last", x.asked(2), Integer.MIN_VALUE);
        x.judge(1);
        Checks.due("the first of another one", x.asked(0), 6);
        Checks.due("not of what there is", x.at(0), 5);
        ShortenPrograms full = Runs.begun(9, Runs.upTo(48));
        Checks.due("the 48th", full.asked(47), 48);
    }

    interface OneCall {
        int answer(ShortenPrograms x);
    }

    private static void refusedWhenNothingIsAsked(String call, OneCall one) {
        ShortenPrograms anew = Runs.asking();
        anew.feed(3);
        ShortenPrograms[] all = {
            new ShortenPrograms(9), Runs.fed(9, 5, 6), Runs.least(), Runs.spent(), Runs.refused(), anew};
        for (ShortenPrograms x : all) {
            Checks.dueRefused(call + " in state " + x.count(0) + " with " + x.count(1) + " words",
                IllegalStateException.class, x, () -> one.answer(x));
        }
    }

    private static void noWordAsked(ShortenPrograms x, int k) {
        Checks.dueRefused("asked(" + k + ") of " + x.size(), IndexOutOfBoundsException.class, x, () -> x.asked(k));
    }

    private static void noSuchWordAsked() {
        ShortenPrograms x = Runs.begun(9, 5, 6, 7, 8);
        noWordAsked(x, -1);
        noWordAsked(x, 4);
        noWordAsked(x, 48);
        noWordAsked(x, Integer.MIN_VALUE);
        noWordAsked(x, Integer.MAX_VALUE);
        x.judge(1);
        // Two words are asked, of the four that there are.
        noWordAsked(x, 2);
        noWordAsked(x, 3);
        ShortenPrograms full = Runs.begun(9, Runs.upTo(48));
        noWordAsked(full, 48);
        ShortenPrograms empty = Runs.begun(9, 5);
        empty.judge(1);
        noWordAsked(empty, 0);
    }

    private static void sizes() {
        Checks.due("one", Runs.begun(9, 5).size(), 1);
        ShortenPrograms full = Runs.begun(9, Runs.upTo(48));
        Checks.due("48", full.size(), 48);
        full.judge(1);
        Checks.due("of the asked one, not of what there is", full.size(), 24);
        full.judge(1);
        Checks.due("none", full.size(), 0);
        ShortenPrograms lowering = Runs.begun(9, 5);
        Runs.textOfNext(lowering, 1, -1);
        Checks.due("with a lowered byte", lowering.size(), 1);
    }

    private static void statesThen() {
        ShortenPrograms x = Runs.begun(9, 0);
        Checks.due("asking", x.judge(0), 1);
        Checks.due("least", x.judge(-1), 2);
        Checks.due("refused", Runs.begun(9, 0).judge(-1), 4);
        Checks.due("spent", Runs.begun(1, 0).judge(0), 3);
        ShortenPrograms emptied = Runs.begun(2, 0);
        emptied.judge(7);
        Checks.due("least, with nothing left", emptied.judge(7), 2);
        ShortenPrograms last = Runs.begun(3, 5, 6);
        last.judge(7);
        Checks.due("the last ask of the budget", last.judge(-1), 1);
        Checks.due("behind it", last.judge(7), 3);
        Checks.due("as it is told by count", last.count(0), 3);
    }

    private static void judgeWhenNothingIsAsked() {
        refusedWhenNothingIsAsked("judge(0)", x -> x.judge(0));
        refusedWhenNothingIsAsked("judge(1)", x -> x.judge(1));
        refusedWhenNothingIsAsked("judge(-1)", x -> x.judge(-1));
        refusedWhenNothingIsAsked("judge(-2)", x -> x.judge(-2));
    }

    private static void belowNone() {
        for (int answer : new int[] {-2, -3, Integer.MIN_VALUE}) {
            ShortenPrograms first = Runs.begun(9, 5, 6);
            Checks.dueRefused("judge(" + answer + ")", IllegalArgumentException.class, first, () -> first.judge(answer));
            ShortenPrograms other = Runs.asking();
            Checks.dueRefused("judge(" + answer + ")", IllegalArgumentException.class, other, () -> other.judge(answer));
            Checks.due("NONE is not below NONE", other.judge(-1), 1);
        }
        Checks.due("NONE is not below NONE for the program itself", Runs.begun(9, 5).judge(-1), 4);
    }
}
