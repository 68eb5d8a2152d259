/**
 * Makes a failing program short. The program is fed word by word and begun; then one program after
 * the other is asked of a judge, and those that show the same difference take the place of the last.
 */
public final class ShortenPrograms {
    /** Nothing there. */
    public static final int NONE = -1;

    private static final int NOT_ASKED = -2;

    private static final int MOST_WORDS = 48;
    private static final int MOST_ASKS = 600;
    private static final int BYTES_OF_A_WORD = 4;
    private static final int HIGHEST_BYTE_VALUE = 255;

    private static final int WITHOUT_WORD = 0;
    private static final int WITH_BYTE = 1;

    private static final int FED = 0;
    private static final int ASKING = 1;
    private static final int LEAST = 2;
    private static final int SPENT = 3;
    private static final int REFUSED = 4;

    // Between two asks there are some two thousand turns at most: the bound is never met.
    private static final int MOST_TURNS = 1000000;

    private final int budget;
    private final Program current;
    // One row for every program that is tried or looked up, so that neither makes a new one.
    private final Program candidate;
    private final Memory memory;
    private final Walk walk;
    private int state;
    private int theDifference;
    private int remembered;
    private int good;
    private int leftOut;
    private int lowered;

    public ShortenPrograms(int asks) {
        // In longs, since the lowest int has no int below it.
        budget = 1 + (int) Math.floorMod((long) asks - 1L, (long) MOST_ASKS);
        current = new Program();
        candidate = new Program();
        memory = new Memory();
        walk = new Walk();
        state = FED;
        theDifference = NONE;
    }

    public int feed(int word) throws UnsupportedOperationException {
        if (state != FED) {
            startAfresh();
        }
        if (current.isFull()) {
            throw new UnsupportedOperationException("a program has at most 48 words");
        }
        current.append(word);
        return current.length();
    }

    public void begin() throws IllegalStateException {
        if (state != FED || current.length() == 0) {
            throw new IllegalStateException("only a fed program with words can begin");
        }
        memory.keep(current);
        state = ASKING;
    }

    public int asked(int k) throws IllegalStateException, IndexOutOfBoundsException {
        Ask open = openAsk();
        if (open == null) {
            throw new IllegalStateException("no program is asked");
        }
        if (!open.program().has(k)) {
            throw new IndexOutOfBoundsException("the program that is asked has no such word");
        }
        return open.program().word(k);
    }

    public int size() throws IllegalStateException {
        Ask open = openAsk();
        if (open == null) {
            throw new IllegalStateException("no program is asked");
        }
        return open.program().length();
    }

    public int judge(int difference) throws IllegalStateException, IllegalArgumentException {
        Ask open = openAsk();
        if (open == null) {
            throw new IllegalStateException("no program is asked");
        }
        if (difference < NONE) {
            throw new IllegalArgumentException("a difference is not below NONE");
        }
        open.setAnswer(difference);
        // Only the program itself is asked while the difference is not told.
        if (theDifference == NONE) {
            takeFirst(difference);
        } else {
            take(difference);
        }
        if (state == ASKING) {
            askNext();
        }
        return state;
    }

    public int at(int k) throws IndexOutOfBoundsException {
        if (!current.has(k)) {
            throw new IndexOutOfBoundsException("there is no such word");
        }
        return current.word(k);
    }

    public int from(int k) throws IndexOutOfBoundsException {
        if (!current.has(k)) {
            throw new IndexOutOfBoundsException("there is no such word");
        }
        return current.origin(k);
    }

    public int known(int what, int k, int b, int v)
            throws IndexOutOfBoundsException, IllegalArgumentException {
        if (!current.has(k)) {
            throw new IndexOutOfBoundsException("there is no such word");
        }
        if (what == WITH_BYTE && (b < 0 || b >= BYTES_OF_A_WORD)) {
            throw new IndexOutOfBoundsException("a word has no such byte");
        }
        if (what != WITHOUT_WORD && what != WITH_BYTE) {
            throw new IllegalArgumentException("what is 0 or 1");
        }
        if (what == WITH_BYTE && (v < 0 || v > HIGHEST_BYTE_VALUE)) {
            throw new IllegalArgumentException("a byte is 0 to 255");
        }
        candidate.copy(current);
        if (what == WITHOUT_WORD) {
            candidate.leaveOut(k, 1);
        } else {
            candidate.setByte(k, b, v);
        }
        Ask found = memory.find(candidate);
        return found == null ? NOT_ASKED : found.answer();
    }

    public int count(int what) {
        switch (what) {
            case 0: return state;
            case 1: return current.length();
            case 2: return memory.filled();
            case 3: return remembered;
            case 4: return good;
            case 5: return leftOut;
            case 6: return lowered;
            case 7: return budget;
            case 8: return theDifference;
            case 9: return walk.timesLeaving();
            default: return NONE;
        }
    }

    private void startAfresh() {
        current.clear();
        memory.clear();
        walk.clear();
        state = FED;
        theDifference = NONE;
        remembered = 0;
        good = 0;
        leftOut = 0;
        lowered = 0;
    }

    private Ask openAsk() {
        return state == ASKING ? memory.last() : null;
    }

    private void takeFirst(int answer) {
        if (answer == NONE) {
            state = REFUSED;
            return;
        }
        theDifference = answer;
        walk.startLeaving(Math.max(1, current.length() / 2));
    }

    private void take(int answer) {
        if (answer != theDifference) {
            walk.passOver();
            return;
        }
        int before = current.length();
        walk.change(current);
        good++;
        leftOut += before - current.length();
        if (walk.isLowering()) {
            lowered++;
        }
        walk.goOn();
    }

    private void askNext() {
        for (int turn = 0; turn < MOST_TURNS; turn++) {
            if (!walk.findChange(current)) {
                state = LEAST;
                return;
            }
            candidate.copy(current);
            walk.change(candidate);
            Ask before = memory.find(candidate);
            if (before == null) {
                ask();
                return;
            }
            remembered++;
            take(before.answer());
        }
        state = LEAST;
    }

    private void ask() {
        if (memory.filled() >= budget) {
            state = SPENT;
        } else {
            memory.keep(candidate);
        }
    }

    /** Words, and for each the place that it had in the program as it was fed. */
    private static final class Program {
        private final int[] words = new int[MOST_WORDS];
        private final int[] origins = new int[MOST_WORDS];
        private int length;

        int length() {
            return length;
        }

        boolean isFull() {
            return length >= MOST_WORDS;
        }

        boolean has(int k) {
            return k >= 0 && k < length && k < MOST_WORDS;
        }

        int word(int k) {
            return has(k) ? words[k] : 0;
        }

        int origin(int k) {
            return has(k) ? origins[k] : NONE;
        }

        void clear() {
            length = 0;
        }

        void append(int word) {
            if (length >= 0 && length < MOST_WORDS) {
                words[length] = word;
                origins[length] = length;
                length++;
            }
        }

        void copy(Program other) {
            int many = Math.min(other.length, MOST_WORDS);
            for (int k = 0; k < many; k++) {
                words[k] = other.words[k];
                origins[k] = other.origins[k];
            }
            length = many;
        }

        void leaveOut(int first, int many) {
            if (!has(first) || many < 1) {
                return;
            }
            int to = first;
            for (int k = first; k < length && k < MOST_WORDS; k++) {
                if (k - first >= many) {
                    words[to] = words[k];
                    origins[to] = origins[k];
                    to++;
                }
            }
            length = to;
        }

        int byteOf(int k, int b) {
            return (word(k) >>> shift(b)) & HIGHEST_BYTE_VALUE;
        }

        void setByte(int k, int b, int v) {
            if (has(k)) {
                int others = words[k] & ~(HIGHEST_BYTE_VALUE << shift(b));
                words[k] = others | (v & HIGHEST_BYTE_VALUE) << shift(b);
            }
        }

        private static int shift(int b) {
            return 8 * (BYTES_OF_A_WORD - 1 - b);
        }

        boolean hasSameWords(Program other) {
            if (length != other.length) {
                return false;
            }
            for (int k = 0; k < length && k < MOST_WORDS; k++) {
                if (words[k] != other.words[k]) {
                    return false;
                }
            }
            return true;
        }

        int mark() {
            int mark = length;
            for (int k = 0; k < length && k < MOST_WORDS; k++) {
                mark = 31 * mark + words[k];
            }
            return mark;
        }
    }

    /** A program that was asked, with what was answered; NOT_ASKED while it is still open. */
    private static final class Ask {
        private final Program program = new Program();
        private int mark;
        private int answer;

        Program program() {
            return program;
        }

        int answer() {
            return answer;
        }

        void setAnswer(int told) {
            answer = told;
        }

        void open(Program asked) {
            program.copy(asked);
            mark = program.mark();
            answer = NOT_ASKED;
        }

        // The mark spares most comparisons, word by word, of programs that begin alike.
        boolean isOf(Program other, int otherMark) {
            return mark == otherMark && program.hasSameWords(other);
        }
    }

    /** The programs asked since the begin, in their order; its rows are used again after a clear. */
    private static final class Memory {
        private final Ask[] asks = new Ask[MOST_ASKS];
        private int filled;

        int filled() {
            return filled;
        }

        void clear() {
            filled = 0;
        }

        void keep(Program program) {
            if (filled < 0 || filled >= MOST_ASKS) {
                return;
            }
            Ask ask = asks[filled];
            if (ask == null) {
                ask = new Ask();
                asks[filled] = ask;
            }
            ask.open(program);
            filled++;
        }

        Ask last() {
            return filled > 0 && filled <= MOST_ASKS ? asks[filled - 1] : null;
        }

        Ask find(Program program) {
            int mark = program.mark();
            for (int i = 0; i < filled && i < MOST_ASKS; i++) {
                Ask ask = asks[i];
                if (ask != null && ask.isOf(program, mark)) {
                    return ask;
                }
            }
            return null;
        }
    }

    /** Where leaving out and lowering are, and so which change is tried next. */
    private static final class Walk {
        private static final int LEAVING = 0;
        private static final int TO_ZERO = 1;
        private static final int TO_HALF = 2;
        private static final int ONE_LESS = 3;

        private int step;
        private int piece;
        private int place;
        private boolean someLeftOut;
        private int wordPlace;
        private int bytePlace;
        private boolean someLowered;
        private int timesLeaving;

        int timesLeaving() {
            return timesLeaving;
        }

        boolean isLowering() {
            return step != LEAVING;
        }

        void clear() {
            step = LEAVING;
            timesLeaving = 0;
        }

        void startLeaving(int firstPiece) {
            timesLeaving++;
            step = LEAVING;
            startGoingThrough(firstPiece);
        }

        private void startGoingThrough(int nextPiece) {
            piece = nextPiece;
            place = 0;
            someLeftOut = false;
        }

        private void startLowering() {
            step = TO_ZERO;
            wordPlace = 0;
            bytePlace = 0;
            someLowered = false;
        }

        /** Moves to the next change that can be tried, if it does not stand on one; false: none is left. */
        boolean findChange(Program program) {
            for (int turn = 0; turn < MOST_TURNS; turn++) {
                if (step == LEAVING) {
                    if (program.has(place)) {
                        return true;
                    }
                    endGoingThrough();
                } else if (program.has(wordPlace)) {
                    if (canLower(program.byteOf(wordPlace, bytePlace))) {
                        return true;
                    }
                    passOver();
                } else if (someLowered) {
                    startLeaving(1);
                } else {
                    return false;
                }
            }
            return false;
        }

        private void endGoingThrough() {
            if (piece > 1) {
                startGoingThrough(piece / 2);
            } else if (someLeftOut) {
                startGoingThrough(1);
            } else {
                startLowering();
            }
        }

        private boolean canLower(int v) {
            return step == TO_ZERO ? v > 0 : lowerValue(v) > 0;
        }

        private int lowerValue(int v) {
            if (step == TO_ZERO) {
                return 0;
            }
            return step == TO_HALF ? v / 2 : v - 1;
        }

        /** Makes in a program the change that is tried. */
        void change(Program program) {
            if (step == LEAVING) {
                program.leaveOut(place, piece);
            } else {
                int v = program.byteOf(wordPlace, bytePlace);
                program.setByte(wordPlace, bytePlace, lowerValue(v));
            }
        }

        /** After a good change: the same again on what is left, but behind a zero the next byte. */
        void goOn() {
            if (step == LEAVING) {
                someLeftOut = true;
                return;
            }
            someLowered = true;
            if (step == TO_ZERO) {
                nextByte();
            }
        }

        /** After a change that was not good, or that could not be tried. */
        void passOver() {
            if (step == LEAVING) {
                place += piece;
            } else if (step == TO_ZERO) {
                step = TO_HALF;
            } else if (step == TO_HALF) {
                step = ONE_LESS;
            } else {
                nextByte();
            }
        }

        private void nextByte() {
            step = TO_ZERO;
            bytePlace++;
            if (bytePlace >= BYTES_OF_A_WORD) {
                bytePlace = 0;
                wordPlace++;
            }
        }
    }
}
