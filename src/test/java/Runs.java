/** Short ways to bring an object somewhere and to read what it shows. */
final class Runs {
    interface Judge {
        int answer(int[] words);
    }

    private Runs() {
    }

    static ShortenPrograms fed(int asks, int... words) {
        ShortenPrograms x = new ShortenPrograms(asks);
        feed(x, words);
        return x;
    }

    static ShortenPrograms begun(int asks, int... words) {
        ShortenPrograms x = fed(asks, words);
        x.begin();
        return x;
    }

    static void feed(ShortenPrograms x, int... words) {
        for (int word : words) {
            x.feed(word);
        }
    }

    static int[] asked(ShortenPrograms x) {
        int[] words = new int[x.size()];
        for (int k = 0; k < words.length; k++) {
            words[k] = x.asked(k);
        }
        return words;
    }

    static String textOfAsked(ShortenPrograms x) {
        return java.util.Arrays.toString(asked(x));
    }

    static String textOfCurrent(ShortenPrograms x) {
        StringBuilder text = new StringBuilder();
        for (int k = 0; k < x.count(1); k++) {
            text.append(k == 0 ? "" : " ").append(x.at(k)).append('@').append(x.from(k));
        }
        return text.toString();
    }

    static String textOfCounts(ShortenPrograms x) {
        StringBuilder text = new StringBuilder();
        for (int what = 0; what < 10; what++) {
            text.append(what == 0 ? "" : " ").append(x.count(what));
        }
        return text.toString();
    }

    /** Judges until nothing is asked: all programs asked, in their order. */
    static String textOfAsks(ShortenPrograms x, Judge judge) {
        StringBuilder text = new StringBuilder();
        while (x.count(0) == 1) {
            int[] words = asked(x);
            text.append(java.util.Arrays.toString(words));
            x.judge(judge.answer(words));
        }
        return text.toString();
    }

    static boolean holds(int[] words, int word) {
        for (int one : words) {
            if (one == word) {
                return true;
            }
        }
        return false;
    }

    static int[] upTo(int many) {
        int[] words = new int[many];
        for (int k = 0; k < many; k++) {
            words[k] = k + 1;
        }
        return words;
    }
}
