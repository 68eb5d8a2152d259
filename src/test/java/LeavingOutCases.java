/** The sentences of 'Terms' about leaving out; TermsSentenceTest runs them. */
final class LeavingOutCases {
    private LeavingOutCases() {
    }

    static void tests(Sentences sentences) {
        sentences.test("What is asked: LEAVING OUT by pieces of s words, s at first half as many as there are (rounded"
            + " down, at least 1):",
            LeavingOutCases::theFirstPiece);
        sentences.test("with a place p, 0 at first: what there is without its words p to p + s - 1 (as far as there are).",
            LeavingOutCases::asFarAsThereAre);
        sentences.test("Good: again with the same p; else p is p + s.",
            LeavingOutCases::theSamePlaceOrTheNext);
        sentences.test("When p is not below the length: when s was above 1, s is its half (rounded down), p 0;",
            LeavingOutCases::placeNotBelowTheLength);
        sentences.test("when s was 1: if in this going through (from p 0 on) some were good, once more with s 1 and p 0;"
            + " else LOWERING.",
            LeavingOutCases::onceMoreWithPiecesOfOne);
    }

    private static ShortenPrograms begunAndGood(int... words) {
        ShortenPrograms x = Runs.begun(600, words);
        x.judge(1);
        return x;
    }

    private static void theFirstPiece() {
        int[] pieces = {1, 1, 1, 2, 2, 3, 3, 4, 4, 5, 5, 6, 6, 7, 7, 8, 8, 9, 9, 10, 10, 11, 11, 12,
            12, 13, 13, 14, 14, 15, 15, 16, 16, 17, 17, 18, 18, 19, 19, 20, 20, 21, 21, 22, 22, 23, 23, 24};
        for (int many = 1; many <= 48; many++) {
            int piece = pieces[many - 1];
            ShortenPrograms x = begunAndGood(Runs.upTo(many));
            Checks.due("words left of " + many, x.size(), many - piece);
            if (many > 1) {
                Checks.due("the first word left of " + many, x.asked(0), piece + 1);
            }
        }
    }

    private static void asFarAsThereAre() {
        ShortenPrograms five = begunAndGood(1, 2, 3, 4, 5);
        Checks.due("p 0 at first", Runs.textOfAsked(five), "[3, 4, 5]");
        Checks.due("five by twos: the last piece is of one", Runs.textOfNext(five, -1, -1), "[1, 2, 5][1, 2, 3, 4]");
        five.judge(1);
        Checks.due("one word was left out", five.count(5), 1);
        Checks.due("what there is", Runs.textOfCurrent(five), "1@0 2@1 3@2 4@3");
        ShortenPrograms four = begunAndGood(1, 2, 3, 4);
        Checks.due("four by twos: no piece is short", Runs.textOfNext(four, -1, -1), "[1, 2][2, 3, 4]");
        ShortenPrograms eleven = begunAndGood(Runs.upTo(11));
        Checks.due("eleven by fives: the last piece is of one", Runs.textOfNext(eleven, -1, -1),
            "[1, 2, 3, 4, 5, 11][1, 2, 3, 4, 5, 6, 7, 8, 9, 10]");
        ShortenPrograms one = begunAndGood(9);
        Checks.due("one: all of it", Runs.textOfAsked(one), "[]");
    }

    private static void theSamePlaceOrTheNext() {
        ShortenPrograms x = begunAndGood(Runs.upTo(9));
        Checks.due("s 4, p 0", Runs.textOfAsked(x), "[5, 6, 7, 8, 9]");
        Checks.due("not good: p 4", Runs.textOfNext(x, -1), "[1, 2, 3, 4, 9]");
        Checks.due("good: p 4 again", Runs.textOfNext(x, 1), "[1, 2, 3, 4]");
        Checks.due("not good: p 8, so s 2 and p 0", Runs.textOfNext(x, -1), "[3, 4, 9]");
        Checks.due("good: p 0 again", Runs.textOfNext(x, 1), "[9]");
        Checks.due("not good: p 2", Runs.textOfNext(x, -1), "[3, 4]");
        Checks.due("what there is", Runs.textOfCurrent(x), "3@2 4@3 9@8");
        ShortenPrograms ones = begunAndGood(1, 2, 3);
        Checks.due("s 1: good at p 0, good at p 0, not good", Runs.textOfNext(ones, 1, 1, -1), "[3][][0]");
        ShortenPrograms other = begunAndGood(1, 2, 3, 4);
        Checks.due("another difference: p 2", Runs.textOfNext(other, 2), "[1, 2]");
    }

    private static String sizes(int many) {
        ShortenPrograms x = Runs.begun(600, Runs.upTo(many));
        x.judge(1);
        StringBuilder sizes = new StringBuilder();
        while (x.count(0) == 1 && x.size() < many) {
            sizes.append(x.size()).append(' ');
            x.judge(-1);
        }
        return sizes.toString();
    }

    private static void placeNotBelowTheLength() {
        Checks.due("2: s 1", sizes(2), "1 1 ");
        Checks.due("3: s 1", sizes(3), "2 2 2 ");
        Checks.due("4: s 2, 1; p comes to the length", sizes(4), "2 2 3 3 3 3 ");
        // The short last piece of 5, and of 7, is one word: with s 1 it is remembered.
        Checks.due("5: s 2, 1; p goes past the length", sizes(5), "3 3 4 4 4 4 4 ");
        Checks.due("6: s 3, 1", sizes(6), "3 3 5 5 5 5 5 5 ");
        Checks.due("7: s 3, 1", sizes(7), "4 4 6 6 6 6 6 6 6 ");
        Checks.due("10: s 5, 2, 1", sizes(10), "5 5 8 8 8 8 8 9 9 9 9 9 9 9 9 9 9 ");
        Checks.due("14: s 7, 3, 1", sizes(14), "7 7 11 11 11 11 12 13 13 13 13 13 13 13 13 13 13 13 13 13 13 ");
        ShortenPrograms shrunk = begunAndGood(1, 2, 3, 4);
        Checks.due("the length comes down to p: s 1, p 0", Runs.textOfNext(shrunk, -1, 1), "[1, 2][2]");
        ShortenPrograms half = begunAndGood(Runs.upTo(8));
        Checks.due("s is the half of s, not of what is left", Runs.textOfNext(half, 1, -1), "[][7, 8]");
        ShortenPrograms below = begunAndGood(Runs.upTo(5));
        Checks.due("p 4 is below the length 5", Runs.textOfNext(below, -1, -1), "[1, 2, 5][1, 2, 3, 4]");
        Checks.due("good: p 4 is not below the length 4", Runs.textOfNext(below, 1), "[2, 3, 4]");
        ShortenPrograms empty = begunAndGood(1, 2, 3, 4);
        Checks.due("p 0 is not below the length 0", Runs.textOfNext(empty, 1, 1), "[]-");
    }

    private static void onceMoreWithPiecesOfOne() {
        ShortenPrograms last = begunAndGood(5, 6, 7);
        Checks.due("good at the last place: once more", Runs.textOfNext(last, -1, -1, 1), "[5, 7][5, 6][6]");
        Checks.due("none good in that: lowering", Runs.textOfNext(last, -1, -1), "[5][0, 6]");
        Checks.due("nothing was gone through a third time", last.count(3), 0);
        ShortenPrograms first = begunAndGood(5, 6, 7);
        Checks.due("good at the first place: once more too", Runs.textOfNext(first, 1, -1, -1), "[7][6][0, 7]");
        // Of [6, 7] both were asked, so that once more is remembered twice.
        Checks.due("both remembered", first.count(3), 2);
        ShortenPrograms bigger = begunAndGood(1, 2, 3, 4);
        Checks.due("good in pieces of 2 alone: lowering", Runs.textOfNext(bigger, 1, -1, -1, -1), "[][4][3][0, 4]");
        Checks.due("none remembered", bigger.count(3), 0);
        ShortenPrograms twice = begunAndGood(0, 256, 512);
        Checks.due("good in the second: a third time", Runs.textOfNext(twice, -1, -1, 1, -1, 1),
            "[0, 512][0, 256][256][0][]");
        Checks.due("none good: lowering, and nothing to lower", Runs.textOfNext(twice, -1), "-");
        Checks.due("leaving out began once", Runs.textOfCounts(twice), "2 1 7 0 2 2 0 600 1 1");
        ShortenPrograms none = begunAndGood(5, 6);
        Checks.due("none good: lowering", Runs.textOfNext(none, -1, -1), "[5][0, 6]");
        Checks.due("none remembered before lowering", none.count(3), 0);
    }
}
