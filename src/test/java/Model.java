import java.util.ArrayList;
import java.util.LinkedHashMap;
import java.util.List;
import java.util.Map;

/**
 * The document's words once more, in another form: what was fed and what the judge answered is kept,
 * and the whole shortening is played from its start for each answer, straight on, without any place
 * to be kept between two asks.
 */
final class Model {
    /** Playing ends here: an ask is open, or there are no asks left. */
    private static final class Stop extends RuntimeException {
        private static final long serialVersionUID = 1L;
        final int state;

        Stop(int state) {
            this.state = state;
        }
    }

    private final int budget;
    private final List<Integer> fed = new ArrayList<>();
    private final List<Integer> answers = new ArrayList<>();
    private boolean begun;

    private int state;
    private List<Integer> open;
    private List<int[]> now = new ArrayList<>();
    private Map<List<Integer>, Integer> answered = new LinkedHashMap<>();
    private int asks;
    private int remembered;
    private int good;
    private int leftOut;
    private int lowered;
    private int difference = -1;
    private int timesLeaving;

    Model(int asks) {
        long rest = ((long) asks - 1) % 600;
        budget = (int) (1 + (rest < 0 ? rest + 600 : rest));
    }

    int feed(int word) {
        if (state == 0 && fed.size() == 48) {
            throw new UnsupportedOperationException();
        }
        if (state != 0) {
            fed.clear();
            answers.clear();
            begun = false;
        }
        fed.add(word);
        play();
        return fed.size();
    }

    int begin() {
        if (state != 0 || fed.isEmpty()) {
            throw new IllegalStateException();
        }
        begun = true;
        play();
        return 0;
    }

    int asked(int k) {
        if (size() <= k || k < 0) {
            throw new IndexOutOfBoundsException();
        }
        return open.get(k);
    }

    int size() {
        if (open == null) {
            throw new IllegalStateException();
        }
        return open.size();
    }

    int judge(int told) {
        if (open == null) {
            throw new IllegalStateException();
        }
        if (told < -1) {
            throw new IllegalArgumentException();
        }
        answers.add(told);
        play();
        return state;
    }

    int at(int k) {
        return word(k)[0];
    }

    int from(int k) {
        return word(k)[1];
    }

    private int[] word(int k) {
        if (k < 0 || k >= now.size()) {
            throw new IndexOutOfBoundsException();
        }
        return now.get(k);
    }

    int known(int what, int k, int b, int v) {
        int word = at(k);
        if (what == 1 && (b < 0 || b > 3)) {
            throw new IndexOutOfBoundsException();
        }
        if (what != 0 && what != 1 || what == 1 && (v < 0 || v > 255)) {
            throw new IllegalArgumentException();
        }
        List<Integer> program = words(now);
        if (what == 0) {
            program.remove(k);
        } else {
            program.set(k, withByte(word, 24 - 8 * b, v));
        }
        return answered.getOrDefault(program, -2);
    }

    int count(int what) {
        int[] counts = {state, now.size(), asks, remembered, good, leftOut, lowered, budget, difference, timesLeaving};
        return what >= 0 && what < counts.length ? counts[what] : -1;
    }

    private void play() {
        now = new ArrayList<>();
        for (int k = 0; k < fed.size(); k++) {
            now.add(new int[] {fed.get(k), k});
        }
        answered = new LinkedHashMap<>();
        open = null;
        asks = remembered = good = leftOut = lowered = timesLeaving = state = 0;
        difference = -1;
        if (begun) {
            try {
                state = shorten();
            } catch (Stop stop) {
                state = stop.state;
            }
        }
    }

    private int shorten() {
        int first = ask(words(now));
        if (first == -1) {
            return 4;
        }
        difference = first;
        int piece = now.size() < 2 ? 1 : now.size() / 2;
        do {
            timesLeaving++;
            leaveOut(piece);
            piece = 1;
        } while (lower());
        return 2;
    }

    private void leaveOut(int piece) {
        while (true) {
            boolean some = false;
            int place = 0;
            while (place < now.size()) {
                List<int[]> shorter = new ArrayList<>(now.subList(0, place));
                shorter.addAll(now.subList(Math.min(now.size(), place + piece), now.size()));
                int many = now.size() - shorter.size();
                if (isGood(shorter)) {
                    leftOut += many;
                    some = true;
                } else {
                    place += piece;
                }
            }
            if (piece == 1 && !some) {
                return;
            }
            piece = piece == 1 ? 1 : piece / 2;
        }
    }

    private boolean lower() {
        int before = lowered;
        for (int k = 0; k < now.size(); k++) {
            for (int shift = 24; shift >= 0; shift -= 8) {
                lowerByte(k, shift);
            }
        }
        return lowered > before;
    }

    private void lowerByte(int k, int shift) {
        int v = now.get(k)[0] >>> shift & 255;
        if (v == 0 || isGoodByte(k, shift, 0)) {
            return;
        }
        while (v / 2 > 0 && isGoodByte(k, shift, v / 2)) {
            v = v / 2;
        }
        while (v - 1 > 0 && isGoodByte(k, shift, v - 1)) {
            v = v - 1;
        }
    }

    private boolean isGoodByte(int k, int shift, int v) {
        List<int[]> lower = new ArrayList<>(now);
        lower.set(k, new int[] {withByte(now.get(k)[0], shift, v), now.get(k)[1]});
        boolean is = isGood(lower);
        lowered += is ? 1 : 0;
        return is;
    }

    private boolean isGood(List<int[]> program) {
        boolean is = ask(words(program)) == difference;
        if (is) {
            good++;
            now = program;
        }
        return is;
    }

    private int ask(List<Integer> program) {
        Integer before = answered.get(program);
        if (before != null) {
            remembered++;
            return before;
        }
        if (asks == budget) {
            throw new Stop(3);
        }
        asks++;
        if (asks > answers.size()) {
            open = program;
            throw new Stop(1);
        }
        answered.put(program, answers.get(asks - 1));
        return answers.get(asks - 1);
    }

    private static List<Integer> words(List<int[]> program) {
        List<Integer> words = new ArrayList<>();
        for (int[] word : program) {
            words.add(word[0]);
        }
        return words;
    }

    private static int withByte(int word, int shift, int v) {
        return word & ~(255 << shift) | v << shift;
    }
}
