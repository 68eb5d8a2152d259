import java.util.Random;

/** All promises: runs of 512 calls, made by fixed seeds, beside the model. */
public final class ModelTest {
    private static final int CALLS = 512;
    private static final int RUNS = 1500;
    private static final int[] EDGES = {Integer.MIN_VALUE, -601, -600, -2, -1, 0, 1, 2, 3, 4, 47, 48, 49, 255, 256,
        600, 601, Integer.MAX_VALUE};
    private static final String[] NAMES = {"feed", "begin", "asked", "size", "judge", "at", "from", "known", "count"};

    private final Random random;
    private final ShortenPrograms x;
    private final Model model;
    private final int kind;
    private final int wanted;
    private final int seed;
    private String last = "";

    private ModelTest(int seed) {
        this.seed = seed;
        random = new Random(seed);
        int asks = random.nextInt(4) == 0 ? some() : random.nextInt(3) == 0 ? 1 + random.nextInt(40) : 600;
        x = new ShortenPrograms(asks);
        model = new Model(asks);
        kind = random.nextInt(7);
        wanted = random.nextInt(48);
    }

    public static void main(String[] args) {
        int[] ends = new int[5];
        for (int seed = 0; seed < RUNS && Checks.wrong() == 0; seed++) {
            ModelTest test = new ModelTest(seed);
            if (seed % 3 == 0) {
                test.anyCalls();
            } else {
                test.judgeOn(seed % 3 == 1);
            }
            test.lookAtAll();
            ends[test.x.count(0)]++;
        }
        for (int state = 1; state < 5; state++) {
            Checks.due("some runs end in state " + state, ends[state] > 0 ? 1 : 0, 1);
        }
        Checks.end("ModelTest");
    }

    private int some() {
        return random.nextBoolean() ? EDGES[random.nextInt(EDGES.length)] : random.nextInt();
    }

    private void anyCalls() {
        for (int call = 0; call < CALLS - 160; call++) {
            int which = random.nextInt(12);
            if (which >= NAMES.length || model.count(0) == 1 && which < 2 && random.nextInt(30) != 0) {
                which = 4;
            }
            int k = random.nextInt(8) == 0 ? some() : random.nextInt(Math.max(1, model.count(1)));
            call(which, argument(which, k), k, random.nextInt(6) - 1, random.nextInt(4) == 0 ? some() : random.nextInt(9));
        }
    }

    private int argument(int which, int k) {
        switch (which) {
            case 0: return word();
            case 4: return random.nextInt(12) == 0 ? some() : answer();
            case 7: return random.nextInt(10) == 0 ? some() : random.nextInt(2);
            case 8: return random.nextInt(12) - 1;
            default: return k;
        }
    }

    /** A long run of asks: nothing else is called, but for one look at each. */
    private void judgeOn(boolean small) {
        int many = small ? 1 + random.nextInt(6) : 1 + random.nextInt(48);
        for (int k = 0; k < many; k++) {
            call(0, word(), 0, 0, 0);
        }
        call(1, 0, 0, 0, 0);
        int looks = (CALLS - 170 - many) / 3;
        for (int i = 0; i < looks && model.count(0) == 1; i++) {
            call(3, 0, 0, 0, 0);
            call(2, model.size() == 0 ? 0 : random.nextInt(model.size()), 0, 0, 0);
            call(4, answer(), 0, 0, 0);
        }
    }

    private int word() {
        switch (random.nextInt(5)) {
            case 0: return some();
            case 1: return random.nextInt(4) << 8 * random.nextInt(4);
            case 2: return random.nextInt(3);
            case 3: return random.nextInt(256);
            default: return random.nextInt(256) << 24 | random.nextInt(3);
        }
    }

    /** A judge that most runs keep to, so that programs grow short in several ways. */
    private int answer() {
        if (model.count(0) != 1) {
            return 1;
        }
        if (model.count(2) == 1 && random.nextInt(10) != 0) {
            return 1;
        }
        int size = model.size();
        long sum = 0;
        for (int k = 0; k < size; k++) {
            sum += model.asked(k) >>> 24;
            sum += model.asked(k) & 255;
        }
        switch (kind) {
            case 0: return random.nextInt(3) - 1;
            case 1: return size >= wanted % 5 + 1 ? 1 : -1;
            case 2: return sum >= wanted ? 1 : 0;
            case 3: return sum % 2 == 1 ? 1 : -1;
            case 4: return random.nextInt(8) == 0 ? 1 : -1;
            case 5: return 1 + random.nextInt(8) / 7;
            default: return size > 0 && (model.asked(0) & 255) >= wanted % 9 ? 1 : 2;
        }
    }

    private void lookAtAll() {
        for (int what = 0; what < 10; what++) {
            call(8, what, 0, 0, 0);
        }
        for (int k = 0; k < model.count(1); k++) {
            call(5, k, 0, 0, 0);
            call(6, k, 0, 0, 0);
            call(7, k % 2, k, k % 4, k % 3 == 0 ? 0 : random.nextInt(256));
        }
    }

    private void call(int which, int a, int k, int b, int v) {
        String text = "run " + seed + " " + NAMES[which] + "(" + a + ", " + k + ", " + b + ", " + v + ") after " + last;
        String want;
        try {
            want = "" + ofModel(which, a, k, b, v);
        } catch (RuntimeException e) {
            want = e.getClass().getName();
        }
        String got;
        try {
            got = "" + ofClass(which, a, k, b, v);
        } catch (RuntimeException e) {
            got = e.getClass().getName();
        }
        Checks.due(text, got, want);
        last = NAMES[which];
    }

    private int ofModel(int which, int a, int k, int b, int v) {
        switch (which) {
            case 0: return model.feed(a);
            case 1: return model.begin();
            case 2: return model.asked(a);
            case 3: return model.size();
            case 4: return model.judge(a);
            case 5: return model.at(a);
            case 6: return model.from(a);
            case 7: return model.known(a, k, b, v);
            default: return model.count(a);
        }
    }

    private int ofClass(int which, int a, int k, int b, int v) {
        switch (which) {
            case 0: return x.feed(a);
            case 1: x.begin(); return 0;
            case 2: return x.asked(a);
            case 3: return x.size();
            case 4: return x.judge(a);
            case 5: return x.at(a);
            case 6: return x.from(a);
            case 7: return x.known(a, k, b, v);
            default: return x.count(a);
        }
    }
}
