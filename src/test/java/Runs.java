/** Short ways to bring an object somewhere and to read what it shows. */
final class Runs {
    interface Judge {
        int answer(int[] words);
    }

    private Runs() {
    }

    static ShortenPrograms fed(int asks, int... words) {
        ShortenPrograms x = new ShortenPrograms(asks);
        feed(x, words);
        return x;
    }

    static ShortenPrograms begun(int asks, int... words) {
        ShortenPrograms x = fed(asks, words);
        x.begin();
        return x;
    }

    static void feed(ShortenPrograms x, int... words) {
        for (int word : words) {
            x.feed(word);
        }
    }

    static int[] asked(ShortenPrograms x) {
        int[] words = new int[x.size()];
        for (int k = 0; k < words.length; k++) {
            words[k] = x.asked(k);
        }
        return words;
    }

    static String textOfAsked(ShortenPrograms x) {
        return java.util.Arrays.toString(asked(x));
    }

    static String textOfCurrent(ShortenPrograms x) {
        StringBuilder text = new StringBuilder();
        int length = x.count(1);
        for (int k = 0; k < length; k++) {
            text.append(k == 0 ? "" : " ").append(x.at(k)).append('@').append(x.from(k));
        }
        return text.toString();
    }

    static String textOfCounts(ShortenPrograms x) {
        StringBuilder text = new StringBuilder();
        for (int what = 0; what < 10; what++) {
            text.append(what == 0 ? "" : " ").append(x.count(what));
        }
        return text.toString();
    }

    /** All that can be looked at without changing it, but for what is known of single bytes. */
    static String textOfAll(ShortenPrograms x) {
        StringBuilder text = new StringBuilder(textOfCounts(x));
        text.append(" / ").append(textOfCurrent(x)).append(" / ");
        int length = x.count(1);
        for (int k = 0; k < length; k++) {
            text.append(x.known(0, k, 0, 0)).append(' ');
        }
        return text.append(x.count(0) == 1 ? textOfAsked(x) : "nothing asked").toString();
    }

    /** Gives the answers one by one; the programs asked behind each, "-" where none is. */
    static String textOfNext(ShortenPrograms x, int... answers) {
        StringBuilder text = new StringBuilder();
        for (int answer : answers) {
            text.append(x.judge(answer) == 1 ? textOfAsked(x) : "-");
        }
        return text.toString();
    }

    /** Judges until nothing is asked: all programs asked, in their order. */
    static String textOfAsks(ShortenPrograms x, Judge judge) {
        StringBuilder text = new StringBuilder();
        while (x.count(0) == 1) {
            int[] words = asked(x);
            text.append(java.util.Arrays.toString(words));
            x.judge(judge.answer(words));
        }
        return text.toString();
    }

    static boolean holds(int[] words, int word) {
        for (int one : words) {
            if (one == word) {
                return true;
            }
        }
        return false;
    }

    static ShortenPrograms least() {
        ShortenPrograms x = begun(9, 0);
        x.judge(1);
        x.judge(-1);
        return x;
    }

    static ShortenPrograms spent() {
        ShortenPrograms x = begun(2, 5, 6);
        x.judge(1);
        x.judge(-1);
        return x;
    }

    static ShortenPrograms refused() {
        ShortenPrograms x = begun(9, 5, 6);
        x.judge(-1);
        return x;
    }

    static ShortenPrograms asking() {
        ShortenPrograms x = begun(9, 5, 6, 7, 8);
        x.judge(1);
        x.judge(-1);
        return x;
    }

    static int[] upTo(int many) {
        int[] words = new int[many];
        for (int k = 0; k < many; k++) {
            words[k] = k + 1;
        }
        return words;
    }
}
