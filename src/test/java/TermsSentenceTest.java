/** The sentences of 'What it is' and of 'Terms', each with the boundary cases that it names. */
public final class TermsSentenceTest {
    public static void main(String[] args) {
        Sentences sentences = new Sentences(args);
        sentences.section("What it is");
        sentences.test("Failing programs made short: words left out by halves, then smaller pieces, then one by one;"
            + " their bytes lowered; each program that comes of it is asked of a judge, whose answer has to be the same"
            + " difference; asked once, remembered, in one fixed order, as long as asks are left.",
            TermsSentenceTest::madeShort);
        sentences.test("An object is used for at most 512 calls after it has been made; what later calls answer is free.",
            TermsSentenceTest::the512thCall);
        sentences.end();
        sentences.section("Terms");
        programsAndAnswers(sentences);
        LeavingOutCases.tests(sentences);
        LoweringCases.tests(sentences);
        askingAndEnding(sentences);
        sentences.end();
        Checks.end("TermsSentenceTest");
    }

    private static void programsAndAnswers(Sentences sentences) {
        sentences.test("A PROGRAM has up to 48 WORDS (ints).",
            TermsSentenceTest::upTo48Words);
        sentences.test("It is FED, then BEGUN; then programs are ASKED, one by one; the JUDGE answers each with a"
            + " DIFFERENCE (from 0 on) or NONE.",
            TermsSentenceTest::differencesFrom0OnOrNone);
        sentences.test("The first one asked is the program itself: with NONE it is REFUSED; else its difference is THE"
            + " DIFFERENCE.",
            TermsSentenceTest::theFirstOne);
        sentences.test("Another one is GOOD when its difference is the same: it is what there IS from then on; else"
            + " nothing changes.",
            TermsSentenceTest::goodOnlyWhenTheSame);
    }

    private static void askingAndEnding(Sentences sentences) {
        sentences.test("A program that was asked before (the same words), since it was begun, is not asked again: what"
            + " was answered then is taken (a REMEMBERED one).",
            TermsSentenceTest::remembered);
        sentences.test("When there would be one more ask than the BUDGET: SPENT.",
            TermsSentenceTest::oneMoreThanTheBudget);
        sentences.test("A program without words is asked like others.",
            TermsSentenceTest::withoutWords);
        sentences.test("STATES: 0 fed, 1 asking, 2 least, 3 spent, 4 refused.",
            TermsSentenceTest::states);
        sentences.test("Of several exceptions the first one told is thrown.",
            TermsSentenceTest::theFirstExceptionTold);
        sentences.test("The constants: `NONE = -1`: Nothing there.",
            TermsSentenceTest::none);
    }

    /** Programs fail with 6 when they hold words of which the lowest bytes come to 9 or more. */
    private static int lowestBytes(int[] words) {
        int sum = 0;
        for (int word : words) {
            sum += word & 255;
        }
        return sum >= 9 ? 6 : sum % 3 - 1;
    }

    private static void madeShort() {
        ShortenPrograms x = Runs.begun(600, 2, 3, 2, 3, 2, 3, 0x0707);
        String asks = Runs.textOfAsks(x, TermsSentenceTest::lowestBytes);
        // Left out by threes and by ones; 3 lowered to 2 and 0x0707 to 7; left out and lowered anew.
        Checks.due("all that is asked, in its order", asks, "[2, 3, 2, 3, 2, 3, 1799]"
            + "[3, 2, 3, 1799][1799][3, 2, 3][2, 3, 1799][3, 1799][3]"
            + "[0, 1799][1, 1799][2, 1799][2, 7][2, 0][2, 3][2, 6]"
            + "[7][2][0, 7][1, 7]");
        Checks.due("what is left", Runs.textOfCurrent(x), "2@5 7@6");
        Checks.due("counts", Runs.textOfCounts(x), "2 2 18 8 5 5 2 600 6 2");
        String[] each = asks.substring(1, asks.length() - 1).split("\\]\\[", -1);
        Checks.due("asked once", new java.util.HashSet<>(java.util.Arrays.asList(each)).size(), each.length);
        int before = -1;
        for (int budget = 1; budget <= each.length; budget++) {
            ShortenPrograms less = Runs.begun(budget, 2, 3, 2, 3, 2, 3, 0x0707);
            String some = Runs.textOfAsks(less, TermsSentenceTest::lowestBytes);
            Checks.due("the same order with a budget of " + budget, asks.startsWith(some) && some.length() > before);
            Checks.due("asks with a budget of " + budget, less.count(2), budget);
            Checks.due("its end", less.count(0), budget < each.length ? 3 : 2);
            before = some.length();
        }
    }

    /** 48 words -1 to -48 and 511 calls: 79 asks to leave out, then three for each byte, none good. */
    private static ShortenPrograms after511Calls(int asks) {
        ShortenPrograms x = new ShortenPrograms(asks);
        for (int k = 0; k < 48; k++) {
            x.feed(-1 - k);
        }
        x.begin();
        x.judge(1);
        for (int i = 1; i < 462; i++) {
            x.judge(-1);
        }
        return x;
    }

    private static void the512thCall() {
        // The 463rd ask is open: word 31, -32, with its lowest byte, 224, one less.
        Checks.due("asked(31)", after511Calls(600).asked(31), -33);
        Checks.due("size()", after511Calls(600).size(), 48);
        Checks.due("at(47)", after511Calls(600).at(47), -48);
        Checks.due("from(47)", after511Calls(600).from(47), 47);
        Checks.due("count(2)", after511Calls(600).count(2), 463);
        Checks.due("count(3)", after511Calls(600).count(3), 0);
        Checks.due("known, half of the byte", after511Calls(600).known(1, 31, 3, 112), -1);
        Checks.due("known, without the first word", after511Calls(600).known(0, 0, 0, 0), -1);
        Checks.due("known, the one that is asked", after511Calls(600).known(1, 31, 3, 223), -2);
        Checks.due("judge", after511Calls(600).judge(1), 1);
        Checks.due("judge with a budget of 464", after511Calls(464).judge(-1), 1);
        Checks.due("judge with a budget of 463", after511Calls(463).judge(-1), 3);
        Checks.due("feed", after511Calls(600).feed(5), 1);
        Checks.dueThrow("begin", IllegalStateException.class, () -> after511Calls(600).begin());
        Checks.dueThrow("at(48)", IndexOutOfBoundsException.class, () -> after511Calls(600).at(48));
    }

    private static void upTo48Words() {
        int[] words = Runs.upTo(48);
        words[0] = Integer.MIN_VALUE;
        words[46] = -1;
        words[47] = Integer.MAX_VALUE;
        ShortenPrograms x = Runs.fed(600, words);
        Checks.due("a full program", x.count(1), 48);
        Checks.dueRefused("feed of a 49th word", UnsupportedOperationException.class, x, () -> x.feed(0));
        x.begin();
        Checks.due("the full program is asked", Runs.textOfAsked(x), java.util.Arrays.toString(words));
        ShortenPrograms one = Runs.begun(600, 0);
        Checks.due("one word is a program", Runs.textOfAsked(one), "[0]");
    }

    private static void differencesFrom0OnOrNone() {
        ShortenPrograms x = Runs.begun(600, 5, 6, 7, 8);
        Checks.dueRefused("answer below NONE", IllegalArgumentException.class, x, () -> x.judge(-2));
        Checks.due("0 is a difference", x.judge(0), 1);
        Checks.due("one by one: the second", x.count(2), 2);
        Checks.due("NONE is an answer", x.judge(-1), 1);
        Checks.due("one by one: the third", x.count(2), 3);
        Checks.due("the highest int is a difference", x.judge(Integer.MAX_VALUE), 1);
        Checks.due("one by one: the fourth", x.count(2), 4);
        Checks.dueRefused("lowest int", IllegalArgumentException.class, x, () -> x.judge(Integer.MIN_VALUE));
    }

    private static void theFirstOne() {
        ShortenPrograms none = Runs.begun(600, 5, 6);
        Checks.due("the program itself", Runs.textOfAsked(none), "[5, 6]");
        Checks.due("NONE for it", none.judge(-1), 4);
        Checks.due("no difference then", none.count(8), -1);
        Checks.dueThrow("nothing is asked then", IllegalStateException.class, () -> none.size());
        Checks.due("NONE for it with a budget of 1", begunAndJudged(1, -1).count(0), 4);
        Checks.due("0 for it", begunAndJudged(9, 0).count(8), 0);
        Checks.due("0 for it: asking", begunAndJudged(9, 0).count(0), 1);
        Checks.due("the highest for it", begunAndJudged(9, Integer.MAX_VALUE).count(8), Integer.MAX_VALUE);
        ShortenPrograms later = begunAndJudged(9, 3);
        Checks.due("NONE for another one", later.judge(-1), 1);
        Checks.due("the difference stays", later.count(8), 3);
        later.judge(7);
        Checks.due("the difference stays with another one's", later.count(8), 3);
    }

    private static ShortenPrograms begunAndJudged(int asks, int answer) {
        ShortenPrograms x = Runs.begun(asks, 5, 6, 7, 8);
        x.judge(answer);
        return x;
    }

    private static void goodOnlyWhenTheSame() {
        notGood("one below", 3, 2);
        notGood("one above", 3, 4);
        notGood("NONE", 3, -1);
        notGood("NONE, with the difference 0", 0, -1);
        notGood("1, with the difference 0", 0, 1);
        notGood("0, with the highest", Integer.MAX_VALUE, 0);
        for (int same : new int[] {0, 3, Integer.MAX_VALUE}) {
            ShortenPrograms x = begunAndJudged(9, same);
            x.judge(same);
            Checks.due("good with " + same, Runs.textOfCurrent(x), "7@2 8@3");
            Checks.due("counts with " + same, Runs.textOfCounts(x), "1 2 3 0 1 2 0 9 " + same + " 1");
        }
        ShortenPrograms byteOfIt = Runs.begun(9, 6);
        byteOfIt.judge(2);
        byteOfIt.judge(-1);
        byteOfIt.judge(3);
        Checks.due("a byte that is not good", Runs.textOfCurrent(byteOfIt), "6@0");
        Checks.due("the next one", Runs.textOfAsked(byteOfIt), "[3]");
        byteOfIt.judge(2);
        Checks.due("a byte that is good", Runs.textOfCurrent(byteOfIt), "3@0");
    }

    private static void notGood(String what, int difference, int answer) {
        ShortenPrograms x = begunAndJudged(9, difference);
        x.judge(answer);
        Checks.due("not good: " + what, Runs.textOfCurrent(x), "5@0 6@1 7@2 8@3");
        Checks.due("counts: " + what, Runs.textOfCounts(x), "1 4 3 0 0 0 0 9 " + difference + " 1");
    }

    private static void remembered() {
        ShortenPrograms equal = Runs.begun(600, 4, 4, 4);
        equal.judge(1);
        equal.judge(7);
        Checks.due("the same words from other places", Runs.textOfAsked(equal), "[0, 4, 4]");
        Checks.due("both remembered", equal.count(3), 2);
        Checks.due("asks", equal.count(2), 3);
        Checks.due("what was answered then is taken", equal.known(0, 2, 0, 0), 7);
        ShortenPrograms order = Runs.begun(600, 1, 2, 1);
        order.judge(1);
        order.judge(-1);
        order.judge(-1);
        Checks.due("another order is another program", Runs.textOfAsked(order), "[1, 2]");
        ShortenPrograms zeros = Runs.begun(600, 0, 0, 0, 0);
        zeros.judge(1);
        zeros.judge(-1);
        Checks.due("another length is another program", Runs.textOfAsked(zeros), "[0, 0, 0]");
        Checks.due("the second half is remembered", zeros.count(3), 1);
        rememberedSinceItWasBegun();
    }

    private static void rememberedSinceItWasBegun() {
        ShortenPrograms x = Runs.begun(600, 7, 8);
        x.judge(1);
        x.judge(-1);
        x.judge(-1);
        Runs.feed(x, 7, 8);
        x.begin();
        Checks.due("asked in the program before: the program itself", Runs.textOfAsked(x), "[7, 8]");
        Checks.due("asked in the program before: others", Runs.textOfNext(x, 1, -1, -1), "[8][7][0, 8]");
        Checks.due("none remembered", x.count(3), 0);
    }

    private static void oneMoreThanTheBudget() {
        ShortenPrograms one = Runs.begun(1, 7, 8);
        Checks.due("a budget of 1: the program itself", one.count(0), 1);
        Checks.due("and no other", one.judge(0), 3);
        Checks.due("counts", Runs.textOfCounts(one), "3 2 1 0 0 0 0 1 0 1");
        Checks.dueThrow("nothing is asked then", IllegalStateException.class, () -> one.size());
        ShortenPrograms two = Runs.begun(2, 7, 8);
        Checks.due("a budget of 2: one other", two.judge(0), 1);
        Checks.due("good with the last ask", two.judge(0), 3);
        Checks.due("what there is then", Runs.textOfCurrent(two), "8@1");
        // The word 2 takes four asks, and one program that is remembered, to be least.
        Runs.Judge onlyTwo = words -> words.length == 1 && words[0] == 2 ? 0 : -1;
        ShortenPrograms enough = Runs.begun(4, 2);
        Runs.textOfAsks(enough, onlyTwo);
        Checks.due("as many as the budget: least", Runs.textOfCounts(enough), "2 1 4 1 0 0 0 4 0 1");
        ShortenPrograms less = Runs.begun(3, 2);
        Runs.textOfAsks(less, onlyTwo);
        Checks.due("one more: spent", Runs.textOfCounts(less), "3 1 3 0 0 0 0 3 0 1");
        ShortenPrograms equal = Runs.begun(3, 4, 4, 4);
        equal.judge(1);
        Checks.due("remembered ones are no asks: a third", equal.judge(-1), 1);
        Checks.due("two were remembered before it", equal.count(3), 2);
        Checks.due("and no fourth", equal.judge(-1), 3);
        less.feed(0);
        less.begin();
        less.judge(0);
        Checks.due("the budget is whole for a new program", less.judge(-1), 2);
    }

    private static void withoutWords() {
        ShortenPrograms x = Runs.begun(600, 7);
        Checks.due("asked", x.judge(1), 1);
        Checks.due("no words", x.size(), 0);
        Checks.dueThrow("asked(0)", IndexOutOfBoundsException.class, () -> x.asked(0));
        Checks.due("an ask like others", x.count(2), 2);
        Checks.due("not good: what there is stays", Runs.textOfNext(x, 5), "[0]");
        Checks.due("its answer", x.known(0, 0, 0, 0), 5);
        x.judge(1);
        Checks.due("remembered like others", Runs.textOfCounts(x), "2 1 3 1 1 0 1 600 1 2");
        ShortenPrograms good = Runs.begun(600, 7);
        good.judge(1);
        Checks.due("good: nothing is left to ask", good.judge(1), 2);
        Checks.due("counts", Runs.textOfCounts(good), "2 0 2 0 1 1 0 600 1 1");
        ShortenPrograms spent = Runs.begun(1, 7);
        Checks.due("an ask of the budget like others", spent.judge(1), 3);
    }

    private static void states() {
        Checks.due("new", new ShortenPrograms(1).count(0), 0);
        Checks.due("fed", Runs.fed(9, 5).count(0), 0);
        Checks.due("the program itself asked", Runs.begun(9, 5).count(0), 1);
        Checks.due("another asked", Runs.asking().count(0), 1);
        Checks.due("least", Runs.least().count(0), 2);
        Checks.due("spent", Runs.spent().count(0), 3);
        Checks.due("refused", Runs.refused().count(0), 4);
    }

    private static void theFirstExceptionTold() {
        for (ShortenPrograms x : new ShortenPrograms[] {
            new ShortenPrograms(9), Runs.fed(9, 5), Runs.least(), Runs.spent(), Runs.refused()}) {
            String where = " in state " + x.count(0);
            Checks.dueThrow("asked(-1)" + where, IllegalStateException.class, () -> x.asked(-1));
            Checks.dueThrow("asked(48)" + where, IllegalStateException.class, () -> x.asked(48));
            Checks.dueThrow("judge(-2)" + where, IllegalStateException.class, () -> x.judge(-2));
        }
        ShortenPrograms x = Runs.asking();
        Checks.dueThrow("no such word, another what", IndexOutOfBoundsException.class, () -> x.known(2, 4, 0, 0));
        Checks.dueThrow("no such word, v 256", IndexOutOfBoundsException.class, () -> x.known(1, 4, 0, 256));
        Checks.dueThrow("no such byte, v -1", IndexOutOfBoundsException.class, () -> x.known(1, 0, 4, -1));
        Checks.dueThrow("no such word or byte, v 256", IndexOutOfBoundsException.class, () -> x.known(1, -1, -1, 256));
    }

    private static void none() {
        Checks.due("NONE", ShortenPrograms.NONE, -1);
        ShortenPrograms x = Runs.begun(9, 5, 6);
        Checks.due("no difference yet", x.count(8), ShortenPrograms.NONE);
        Checks.due("no such count", x.count(10), ShortenPrograms.NONE);
        x.judge(1);
        x.judge(ShortenPrograms.NONE);
        Checks.due("answered so", x.known(0, 0, 0, 0), ShortenPrograms.NONE);
    }
}
