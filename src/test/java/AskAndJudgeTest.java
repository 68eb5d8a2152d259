/** Promises 4 to 6: what is asked, who may ask, and what the judge's answer does. */
public final class AskAndJudgeTest {
    public static void main(String[] args) {
        promise4Words();
        promises4To6NothingAsked();
        promise6WrongAnswers();
        promise6States();
        promise6SameDifferenceOnly();
        Checks.end("AskAndJudgeTest");
    }

    private static void promise4Words() {
        ShortenPrograms x = Runs.begun(9, -1, 20, 30);
        Checks.due("asked(0)", x.asked(0), -1);
        Checks.due("asked(2)", x.asked(2), 30);
        Checks.due("size", x.size(), 3);
        Checks.dueThrow("asked(3)", IndexOutOfBoundsException.class, () -> x.asked(3));
        Checks.dueThrow("asked(-1)", IndexOutOfBoundsException.class, () -> x.asked(-1));
        Checks.dueThrow("asked(lowest)", IndexOutOfBoundsException.class, () -> x.asked(Integer.MIN_VALUE));
        Checks.dueThrow("asked(highest)", IndexOutOfBoundsException.class, () -> x.asked(Integer.MAX_VALUE));
        x.judge(4);
        Checks.due("asked(0) of the second", x.asked(0), 20);
        Checks.due("size of the second", x.size(), 2);
        Checks.dueThrow("asked(2) of the second", IndexOutOfBoundsException.class, () -> x.asked(2));
        ShortenPrograms one = Runs.begun(9, 6);
        one.judge(0);
        Checks.due("size of a program without words", one.size(), 0);
        Checks.dueThrow("asked(0) of it", IndexOutOfBoundsException.class, () -> one.asked(0));
    }

    private static void nothingAsked(String where, ShortenPrograms x) {
        Checks.dueThrow("asked(0) " + where, IllegalStateException.class, () -> x.asked(0));
        Checks.dueThrow("asked(-1) " + where, IllegalStateException.class, () -> x.asked(-1));
        Checks.dueThrow("asked(99) " + where, IllegalStateException.class, () -> x.asked(99));
        Checks.dueThrow("size " + where, IllegalStateException.class, () -> x.size());
        Checks.dueThrow("judge(0) " + where, IllegalStateException.class, () -> x.judge(0));
        Checks.dueThrow("judge(-1) " + where, IllegalStateException.class, () -> x.judge(-1));
        Checks.dueThrow("judge(-2) " + where, IllegalStateException.class, () -> x.judge(-2));
    }

    private static void promises4To6NothingAsked() {
        nothingAsked("in a new object", new ShortenPrograms(4));
        nothingAsked("while fed", Runs.fed(4, 1, 2));
        ShortenPrograms least = Runs.begun(4, 0);
        least.judge(1);
        least.judge(2);
        Checks.due("least", least.count(0), 2);
        nothingAsked("when least", least);
        ShortenPrograms spent = Runs.begun(1, 5, 6);
        spent.judge(1);
        nothingAsked("when spent", spent);
        ShortenPrograms refused = Runs.begun(4, 5, 6);
        refused.judge(-1);
        nothingAsked("when refused", refused);
        refused.feed(1);
        nothingAsked("when fed anew", refused);
    }

    private static void promise6WrongAnswers() {
        ShortenPrograms x = Runs.begun(9, 5, 6);
        Checks.dueThrow("judge(-2)", IllegalArgumentException.class, () -> x.judge(-2));
        Checks.dueThrow("judge(lowest)", IllegalArgumentException.class, () -> x.judge(Integer.MIN_VALUE));
        Checks.due("nothing changed", Runs.textOfCounts(x), "1 2 1 0 0 0 0 9 -1 0");
        Checks.due("still asked", Runs.textOfAsked(x), "[5, 6]");
        x.judge(3);
        Checks.dueThrow("judge(-2) of the second", IllegalArgumentException.class, () -> x.judge(-2));
        Checks.due("nothing changed then", Runs.textOfCounts(x), "1 2 2 0 0 0 0 9 3 1");
        Checks.due("still not known", x.known(0, 0, 0, 0), -2);
    }

    private static void promise6States() {
        ShortenPrograms refused = Runs.begun(9, 5, 6);
        Checks.due("NONE for the program itself", refused.judge(-1), 4);
        Checks.due("counts when refused", Runs.textOfCounts(refused), "4 2 1 0 0 0 0 9 -1 0");
        Checks.due("words when refused", Runs.textOfCurrent(refused), "5@0 6@1");
        ShortenPrograms once = Runs.begun(1, 5, 6);
        Checks.due("refused comes before spent", once.judge(-1), 4);
        once.feed(5);
        once.begin();
        Checks.due("a budget of one", once.judge(0), 3);
        Checks.due("counts when spent", Runs.textOfCounts(once), "3 1 1 0 0 0 0 1 0 1");
        ShortenPrograms least = Runs.begun(2, 0);
        Checks.due("asking goes on", least.judge(0), 1);
        Checks.due("least with the last ask", least.judge(-1), 2);
        Checks.due("counts when least", Runs.textOfCounts(least), "2 1 2 0 0 0 0 2 0 1");
    }

    private static void promise6SameDifferenceOnly() {
        ShortenPrograms x = Runs.begun(9, 5, 6, 7, 8);
        x.judge(Integer.MAX_VALUE);
        Checks.due("the difference", x.count(8), Integer.MAX_VALUE);
        x.judge(0);
        Checks.due("another difference is not good", Runs.textOfCurrent(x), "5@0 6@1 7@2 8@3");
        x.judge(Integer.MAX_VALUE);
        Checks.due("the same one is", Runs.textOfCurrent(x), "5@0 6@1");
        Checks.due("the difference stays", x.count(8), Integer.MAX_VALUE);
        ShortenPrograms zero = Runs.begun(9, 5, 6);
        zero.judge(0);
        zero.judge(-1);
        Checks.due("NONE is not 0", Runs.textOfCurrent(zero), "5@0 6@1");
        zero.judge(0);
        Checks.due("0 is a difference", Runs.textOfCurrent(zero), "5@0");
    }
}
