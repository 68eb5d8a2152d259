/** Promises 7 to 10: what can be looked at. */
public final class LookTest {
    public static void main(String[] args) {
        promises7And8Words();
        promises7And8WrongPlaces();
        promise9Answers();
        promise9TheWholeProgram();
        promise9WrongInputs();
        promise9ChangesNothing();
        promise10EachCount();
        promise10AnotherWhat();
        Checks.end("LookTest");
    }

    private static void promises7And8Words() {
        ShortenPrograms x = Runs.begun(600, 50, 60, 70, 80, 90, 60);
        Checks.due("while the program itself is asked", Runs.textOfCurrent(x), "50@0 60@1 70@2 80@3 90@4 60@5");
        x.judge(1);
        Checks.due("while another is asked", Runs.textOfCurrent(x), "50@0 60@1 70@2 80@3 90@4 60@5");
        x.judge(-1);
        x.judge(-1);
        x.judge(1);
        Checks.due("without the first", Runs.textOfCurrent(x), "60@1 70@2 80@3 90@4 60@5");
        x.judge(-1);
        x.judge(1);
        Checks.due("without the third", Runs.textOfCurrent(x), "60@1 80@3 90@4 60@5");
        x.judge(-1);
        x.judge(-1);
        x.judge(1);
        Checks.due("without the last", Runs.textOfCurrent(x), "60@1 80@3 90@4");
        x.judge(-1);
        x.judge(-1);
        x.judge(-1);
        x.judge(1);
        Checks.due("a lowered word comes from where it was", Runs.textOfCurrent(x), "0@1 80@3 90@4");
    }

    private static void wrongPlace(ShortenPrograms x, int k) {
        Checks.dueThrow("at(" + k + ")", IndexOutOfBoundsException.class, () -> x.at(k));
        Checks.dueThrow("from(" + k + ")", IndexOutOfBoundsException.class, () -> x.from(k));
    }

    private static void promises7And8WrongPlaces() {
        ShortenPrograms x = Runs.begun(600, 5, 6);
        wrongPlace(x, -1);
        wrongPlace(x, 2);
        wrongPlace(x, 48);
        wrongPlace(x, Integer.MIN_VALUE);
        wrongPlace(x, Integer.MAX_VALUE);
        x.judge(1);
        x.judge(1);
        wrongPlace(x, 1);
        Checks.due("at(0)", x.at(0), 6);
        Checks.due("from(0)", x.from(0), 1);
    }

    private static void promise9Answers() {
        ShortenPrograms x = Runs.begun(600, 0x0102, 0x03, 0x04);
        Checks.due("while the program itself is asked", x.known(0, 0, 0, 0), -2);
        x.judge(8);
        Checks.due("the one that is asked is not answered", x.known(0, 0, 0, 0), -2);
        x.judge(9);
        Checks.due("another difference", x.known(0, 0, 0, 0), 9);
        x.judge(-1);
        Checks.due("NONE", x.known(0, 1, 0, 0), -1);
        Checks.due("not yet asked", x.known(0, 2, 0, 0), -2);
        Checks.due("b and v are nothing for what 0", x.known(0, 1, -5, 999), -1);
        x.judge(0);
        Checks.due("0", x.known(0, 2, 0, 0), 0);
        Checks.due("lowering: asked, not answered", x.known(1, 0, 2, 0), -2);
        x.judge(5);
        Checks.due("byte 2 to 0", x.known(1, 0, 2, 0), 5);
        Checks.due("byte 3 to 0", x.known(1, 0, 3, 0), -2);
        Checks.due("byte 0 to 7", x.known(1, 0, 0, 7), -2);
        x.judge(8);
        Checks.due("what there is has changed", x.known(1, 0, 3, 0), 8);
        Checks.due("back to what it was", x.known(1, 0, 3, 2), 8);
        Checks.due("words left out of what it was", x.known(0, 0, 0, 0), 9);
        Checks.due("words left out of what it is", x.known(0, 1, 0, 0), -2);
    }

    private static void promise9TheWholeProgram() {
        ShortenPrograms x = Runs.fed(600, 0x80FF0102);
        Checks.due("fed", x.known(1, 0, 0, 0x80), -2);
        x.begin();
        Checks.due("asked", x.known(1, 0, 0, 0x80), -2);
        x.judge(4);
        Checks.due("the highest byte as it is", x.known(1, 0, 0, 0x80), 4);
        Checks.due("the second byte as it is", x.known(1, 0, 1, 0xFF), 4);
        Checks.due("the third byte as it is", x.known(1, 0, 2, 0x01), 4);
        Checks.due("the lowest byte as it is", x.known(1, 0, 3, 0x02), 4);
        Checks.due("the lowest byte not as it is", x.known(1, 0, 3, 0x03), -2);
        ShortenPrograms refused = Runs.begun(600, 5, 6);
        refused.judge(-1);
        Checks.due("refused", refused.known(1, 1, 3, 6), -1);
        Checks.due("refused, another", refused.known(0, 1, 0, 0), -2);
    }

    private static void outOfBounds(ShortenPrograms x, int what, int k, int b, int v) {
        Checks.dueThrow("known(" + what + ", " + k + ", " + b + ", " + v + ")",
            IndexOutOfBoundsException.class, () -> x.known(what, k, b, v));
    }

    private static void wrongArgument(ShortenPrograms x, int what, int k, int b, int v) {
        Checks.dueThrow("known(" + what + ", " + k + ", " + b + ", " + v + ")",
            IllegalArgumentException.class, () -> x.known(what, k, b, v));
    }

    private static void promise9WrongInputs() {
        ShortenPrograms x = Runs.fed(600, 5, 6);
        outOfBounds(x, 0, 2, 0, 0);
        outOfBounds(x, 0, -1, 0, 0);
        outOfBounds(x, 1, 2, 0, 0);
        outOfBounds(x, 1, Integer.MIN_VALUE, 0, 0);
        outOfBounds(x, 1, 0, 4, 0);
        outOfBounds(x, 1, 0, -1, 0);
        outOfBounds(x, 1, 0, Integer.MAX_VALUE, 0);
        wrongArgument(x, 2, 0, 0, 0);
        wrongArgument(x, -1, 1, 0, 0);
        wrongArgument(x, 1, 0, 3, -1);
        wrongArgument(x, 1, 0, 3, 256);
        // Of several, the first one told.
        outOfBounds(x, 2, 2, 0, 0);
        outOfBounds(x, -1, -1, 9, 999);
        outOfBounds(x, 1, 2, 0, 256);
        outOfBounds(x, 1, 0, 4, 256);
        // Bytes and values are told for what 1 alone.
        wrongArgument(x, 2, 0, 4, 0);
        wrongArgument(x, 3, 1, -1, -1);
        Checks.due("edges of b and v", x.known(1, 1, 3, 255), -2);
        Checks.due("edges of b and v", x.known(1, 1, 0, 0), -2);
    }

    private static void promise9ChangesNothing() {
        ShortenPrograms x = Runs.begun(600, 5, 6, 7);
        x.judge(1);
        String counts = Runs.textOfCounts(x);
        x.known(0, 0, 0, 0);
        x.known(0, 2, 0, 0);
        x.known(1, 2, 3, 200);
        Checks.due("counts after known", Runs.textOfCounts(x), counts);
        Checks.due("asked after known", Runs.textOfAsked(x), "[6, 7]");
        Checks.due("words after known", Runs.textOfCurrent(x), "5@0 6@1 7@2");
        x.judge(-1);
        Checks.due("next after known", Runs.textOfAsked(x), "[5, 7]");
    }

    private static void promise10EachCount() {
        ShortenPrograms x = Runs.begun(30, 6, 0, 6);
        Checks.due("begun", Runs.textOfCounts(x), "1 3 1 0 0 0 0 30 -1 0");
        x.judge(2);
        Checks.due("the difference is told", Runs.textOfCounts(x), "1 3 2 0 0 0 0 30 2 1");
        x.judge(-1);
        x.judge(-1);
        x.judge(-1);
        Checks.due("lowering", Runs.textOfCounts(x), "1 3 5 0 0 0 0 30 2 1");
        x.judge(2);
        Checks.due("lowered once", Runs.textOfCounts(x), "1 3 6 0 1 0 1 30 2 1");
        x.judge(-1);
        x.judge(2);
        Checks.due("half", Runs.textOfCounts(x), "1 3 8 0 2 0 2 30 2 1");
        x.judge(-1);
        Checks.due("one less", Runs.textOfAsked(x), "[0, 0, 2]");
        x.judge(-1);
        Checks.due("leaving out anew", Runs.textOfCounts(x), "1 3 10 0 2 0 2 30 2 2");
        Checks.due("the first is left out", Runs.textOfAsked(x), "[0, 3]");
        x.judge(2);
        Checks.due("left out", Runs.textOfCounts(x), "1 2 11 0 3 1 2 30 2 2");
        Checks.due("again the first", Runs.textOfAsked(x), "[3]");
        x.judge(-1);
        Checks.due("the last", Runs.textOfAsked(x), "[0]");
        x.judge(-1);
        Checks.due("one remembered, then lowering", Runs.textOfCounts(x), "1 2 13 2 3 1 2 30 2 2");
    }

    private static void promise10AnotherWhat() {
        ShortenPrograms x = Runs.begun(30, 6, 0, 6);
        Checks.due("count(10)", x.count(10), -1);
        Checks.due("count(-1)", x.count(-1), -1);
        Checks.due("count(lowest)", x.count(Integer.MIN_VALUE), -1);
        Checks.due("count(highest)", x.count(Integer.MAX_VALUE), -1);
    }
}
