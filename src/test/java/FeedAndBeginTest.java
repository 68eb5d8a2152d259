/** Promises 1 to 3. */
public final class FeedAndBeginTest {
    public static void main(String[] args) {
        promise1Budget();
        promise1Empty();
        promise2Behind();
        promise2Full();
        promise2NewProgramInEachState();
        promise2ForgetsWhatWasAsked();
        promise3Asks();
        promise3Refuses();
        Checks.end("FeedAndBeginTest");
    }

    private static void budget(int asks, int want) {
        Checks.due("budget of " + asks, new ShortenPrograms(asks).count(7), want);
    }

    private static void promise1Budget() {
        budget(1, 1);
        budget(2, 2);
        budget(599, 599);
        budget(600, 600);
        budget(601, 1);
        budget(1200, 600);
        budget(1201, 1);
        budget(0, 600);
        budget(-1, 599);
        budget(-598, 2);
        budget(-599, 1);
        budget(-600, 600);
        budget(Integer.MAX_VALUE, 247);
        budget(Integer.MIN_VALUE + 1, 353);
        // The document's words know no wrap-around: one below the lowest int is one below it.
        budget(Integer.MIN_VALUE, 352);
    }

    private static void promise1Empty() {
        ShortenPrograms x = new ShortenPrograms(9);
        Checks.due("counts of a new object", Runs.textOfCounts(x), "0 0 0 0 0 0 0 9 -1 0");
        Checks.dueThrow("at(0) of a new object", IndexOutOfBoundsException.class, () -> x.at(0));
        Checks.dueThrow("from(0) of a new object", IndexOutOfBoundsException.class, () -> x.from(0));
        Checks.dueThrow("known of a new object", IndexOutOfBoundsException.class, () -> x.known(0, 0, 0, 0));
        Checks.due("feed after what was thrown", x.feed(4), 1);
    }

    private static void promise2Behind() {
        ShortenPrograms x = new ShortenPrograms(9);
        Checks.due("first feed", x.feed(-7), 1);
        Checks.due("second feed", x.feed(Integer.MIN_VALUE), 2);
        Checks.due("third feed", x.feed(-7), 3);
        Checks.due("words fed", Runs.textOfCurrent(x), "-7@0 -2147483648@1 -7@2");
        Checks.due("counts while fed", Runs.textOfCounts(x), "0 3 0 0 0 0 0 9 -1 0");
    }

    private static void promise2Full() {
        ShortenPrograms x = Runs.fed(5, Runs.upTo(47));
        Checks.due("feed 48", x.feed(48), 48);
        Checks.dueThrow("feed 49", UnsupportedOperationException.class, () -> x.feed(49));
        Checks.due("length after that", x.count(1), 48);
        Checks.due("last word after that", x.at(47), 48);
        x.begin();
        Checks.due("size of a full program", x.size(), 48);
        Checks.due("feed while 48 words are asked", x.feed(49), 1);
        Checks.due("the only word", Runs.textOfCurrent(x), "49@0");
    }

    private static void freshAfterFeed(String where, ShortenPrograms x, int state) {
        Checks.due("state " + where, x.count(0), state);
        Checks.due("feed " + where, x.feed(77), 1);
        Checks.due("counts after feed " + where, Runs.textOfCounts(x), "0 1 0 0 0 0 0 " + x.count(7) + " -1 0");
        Checks.due("words after feed " + where, Runs.textOfCurrent(x), "77@0");
        Checks.dueThrow("size after feed " + where, IllegalStateException.class, () -> x.size());
        Checks.due("second feed " + where, x.feed(78), 2);
        x.begin();
        Checks.due("asked after feed " + where, Runs.textOfAsked(x), "[77, 78]");
        Checks.due("judge after feed " + where, x.judge(5), x.count(7) == 1 ? 3 : 1);
        Checks.due("the difference after feed " + where, x.count(8), 5);
    }

    private static void promise2NewProgramInEachState() {
        freshAfterFeed("while the program itself is asked", Runs.begun(7, 1, 2, 3), 1);
        ShortenPrograms asking = Runs.begun(7, 1, 2, 3, 4);
        asking.judge(2);
        asking.judge(2);
        freshAfterFeed("while another is asked", asking, 1);
        ShortenPrograms least = Runs.begun(70, 0x0103, 0x02, 0x03);
        Runs.textOfAsks(least, words -> words.length > 0 ? 2 : -1);
        freshAfterFeed("when it is least", least, 2);
        ShortenPrograms spent = Runs.begun(1, 1, 2, 3);
        spent.judge(2);
        freshAfterFeed("when it is spent", spent, 3);
        ShortenPrograms refused = Runs.begun(9, 1, 2, 3);
        refused.judge(-1);
        freshAfterFeed("when it is refused", refused, 4);
    }

    private static void promise2ForgetsWhatWasAsked() {
        ShortenPrograms x = Runs.begun(50, 7, 8);
        x.judge(1);
        x.judge(-1);
        Checks.due("known before a new program", x.known(0, 0, 0, 0), -1);
        Runs.feed(x, 7, 8);
        Checks.due("known, not begun", x.known(0, 0, 0, 0), -2);
        Checks.due("known of the whole, not begun", x.known(1, 0, 3, 7), -2);
        x.begin();
        Checks.due("known, just begun", x.known(0, 0, 0, 0), -2);
        x.judge(1);
        Checks.due("asked again for a new program", Runs.textOfAsked(x), "[8]");
        Checks.due("nothing remembered", x.count(3), 0);
    }

    private static void promise3Asks() {
        ShortenPrograms x = Runs.fed(9, 4, 5, 6);
        x.begin();
        Checks.due("the program itself is asked", Runs.textOfAsked(x), "[4, 5, 6]");
        Checks.due("counts when begun", Runs.textOfCounts(x), "1 3 1 0 0 0 0 9 -1 0");
    }

    private static void promise3Refuses() {
        ShortenPrograms x = new ShortenPrograms(2);
        Checks.dueThrow("begin without words", IllegalStateException.class, () -> x.begin());
        Checks.due("state after that", x.count(0), 0);
        x.feed(3);
        x.begin();
        Checks.dueThrow("begin while asking", IllegalStateException.class, () -> x.begin());
        Checks.due("asks after that", x.count(2), 1);
        x.judge(-1);
        Checks.dueThrow("begin when refused", IllegalStateException.class, () -> x.begin());
        x.feed(3);
        x.begin();
        x.judge(1);
        x.judge(1);
        Checks.due("an empty program is least", x.count(0), 2);
        Checks.dueThrow("begin when least", IllegalStateException.class, () -> x.begin());
        Runs.feed(x, 3, 4);
        x.begin();
        x.judge(1);
        x.judge(-1);
        Checks.due("two asks are spent", x.count(0), 3);
        Checks.dueThrow("begin when spent", IllegalStateException.class, () -> x.begin());
    }
}
