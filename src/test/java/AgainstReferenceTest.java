import java.util.Random;

/** Long runs of calls, drawn from fixed seeds: every answer, and the whole state, as Reference's. */
public final class AgainstReferenceTest {
    private static final int CALLS = 500;
    private static final long[] FAR_KEYS = {Long.MIN_VALUE, Long.MIN_VALUE + 1, Long.MAX_VALUE,
        Long.MAX_VALUE - 1, 0, -1, 1, Integer.MAX_VALUE, Integer.MIN_VALUE};

    private final Checks checks = new Checks();
    private Random random;
    private StepPurse x;
    private Reference r;
    private int keys;
    private int longestRise;
    private String run;

    public static void main(String[] args) throws InterruptedException {
        // The reference goes down its trees by recursion.
        Thread thread = new Thread(null, AgainstReferenceTest::all, "runs", 1L << 30);
        thread.start();
        thread.join();
    }

    private static void all() {
        AgainstReferenceTest test = new AgainstReferenceTest();
        for (int seed = 0; seed < 1200; seed++) {
            test.randomRun(seed);
        }
        for (int kind = 0; kind < 6; kind++) {
            test.fullRun(kind);
        }
        test.checks.end();
    }

    private void begin(long seed, String name) {
        random = new Random(seed);
        x = new StepPurse();
        r = new Reference();
        run = name;
    }

    private void randomRun(int seed) {
        begin(seed, "run " + seed + ": ");
        keys = new int[] {6, 20, 60, 400, 100000}[seed % 5];
        longestRise = new int[] {3, 8, 30, 90}[random.nextInt(4)];
        // Some runs are all about one kind, the others mix.
        int favourite = random.nextInt(9);
        for (int i = 0; i < 2 + random.nextInt(5); i++) {
            same("make", x.make(i % 6), r.make(i % 6));
            if (favourite < 6) {
                same("make", x.make(favourite), r.make(favourite));
            }
        }
        int lookAt = random.nextInt(4) == 0 ? CALLS / 2 : -1;
        for (int i = 0; i < CALLS; i++) {
            call();
            if (i == lookAt) {
                compareAll(false);
            }
        }
        compareAll(false);
    }

    private void same(String call, long got, long want) {
        checks.due(run + call, got, want);
    }

    private long key() {
        if (random.nextInt(40) == 0) {
            return FAR_KEYS[random.nextInt(FAR_KEYS.length)];
        }
        return random.nextInt(keys) - keys / 4;
    }

    private int structure() {
        if (random.nextInt(60) == 0) {
            return random.nextInt(5) - 2 + (random.nextBoolean() ? x.count(0) : 0);
        }
        return random.nextInt(x.count(0));
    }

    private void call() {
        int s = structure();
        int t = structure();
        long k = key();
        int v = random.nextInt(10) - 3;
        switch (random.nextInt(26)) {
            case 0: case 1: case 2: case 3:
                same("insert " + s + " " + k, x.insert(s, k, v), r.insert(s, k, v));
                break;
            case 4: case 5:
                int n = random.nextInt(longestRise + 1) - (random.nextInt(9) == 0 ? 2 : 0);
                same("rise " + s + " " + k + " " + n, x.rise(s, k, n), r.rise(s, k, n));
                break;
            case 6: case 7:
                same("find " + s + " " + k, x.find(s, k), r.find(s, k));
                break;
            case 8: case 9: case 10: case 11:
                same("drop " + s + " " + k, x.drop(s, k), r.drop(s, k));
                break;
            case 12: same("below " + s + " " + k, x.below(s, k), r.below(s, k)); break;
            case 13: same("above " + s + " " + k, x.above(s, k), r.above(s, k)); break;
            case 14:
                if (random.nextInt(3) == 0) {
                    same("split " + s + " " + k, x.split(s, k), r.split(s, k));
                }
                break;
            case 15: case 16: same("join " + s + " " + t, x.join(s, t), r.join(s, t)); break;
            case 17: case 18: same("pop " + s, x.pop(s), r.pop(s)); break;
            case 19: same("meld " + s + " " + t, x.meld(s, t), r.meld(s, t)); break;
            case 20: case 21: same("push " + s, x.push(s, k), r.push(s, k)); break;
            case 22: case 23: case 24: pulls(s); break;
            default: look(s, t);
        }
        same("foundKey", x.foundKey(), r.foundKey());
        same("foundValue", x.foundValue(), r.foundValue());
    }

    private void pulls(int s) {
        int n = 1 + random.nextInt(1 + longestRise / 2);
        for (int i = 0; i < n; i++) {
            same("pull " + s, x.pull(s), r.pull(s));
        }
    }

    private void look(int s, int t) {
        int i = random.nextInt(30) - 3;
        int what = random.nextInt(11) - 2;
        same("about " + s + " " + what, x.about(s, what), r.about(s, what));
        same("price " + what + " " + s + " " + t, x.price(what, s, t), r.price(what, s, t));
        same("node " + s + " " + i + " " + what, x.node(s, i, what), r.node(s, i, what));
        same("nodeKey " + s + " " + i, x.nodeKey(s, i), r.nodeKey(s, i));
        same("at " + s + " " + i, x.at(s, i), r.at(s, i));
        same("ledger " + i + " " + what, x.ledger(i, what), r.ledger(i, what));
        same("spread " + i, x.spread(i), r.spread(i));
        same("count " + what, x.count(what), r.count(what));
        same("make", x.make(what), r.make(what));
    }

    /** When few, the nodes of large structures are looked at here and there. */
    private void compareAll(boolean few) {
        for (int what = -1; what < 4; what++) {
            same("count " + what, x.count(what), r.count(what));
        }
        for (int i = -1; i <= r.count(2); i++) {
            for (int what = -1; what < 5; what++) {
                same("ledger " + i + " " + what, x.ledger(i, what), r.ledger(i, what));
            }
        }
        for (int n = 0; n <= Math.min(9, r.count(2) + 1); n++) {
            same("spread " + n, x.spread(n), r.spread(n));
        }
        for (int s = 0; s < r.count(0); s++) {
            compareStructure(s, few);
        }
    }

    private void compareStructure(int s, boolean few) {
        for (int what = -1; what < 9; what++) {
            same("about " + s + " " + what, x.about(s, what), r.about(s, what));
        }
        // Beside PLAIN trees the purse covers the potential, as the document's first words say.
        checks.holds(run + "purse of " + s, x.about(s, 0) == 0 || x.about(s, 5) >= x.about(s, 4));
        for (int how = -1; how < 6; how++) {
            for (int t = 0; t < Math.min(8, r.count(0)); t++) {
                same("price " + how + " " + s + " " + t, x.price(how, s, t), r.price(how, s, t));
            }
        }
        int held = r.about(s, 1);
        int stride = few ? 1 + held / 20 : 1;
        for (int i = -1; i <= held; i += i < 0 ? 1 : stride) {
            same("at " + s + " " + i, x.at(s, i), r.at(s, i));
            same("nodeKey " + s + " " + i, x.nodeKey(s, i), r.nodeKey(s, i));
            for (int what = -1; what < 6; what++) {
                same("node " + s + " " + i + " " + what, x.node(s, i, what), r.node(s, i, what));
            }
        }
    }

    /** Thousands of entries in a few structures of one kind, by rise most of all. */
    private void fullRun(int kind) {
        begin(77 + kind, "full run of kind " + kind + ": ");
        keys = 4000;
        longestRise = 400;
        for (int i = 0; i < 3; i++) {
            same("make", x.make(kind), r.make(kind));
        }
        for (int i = 0; i < 12; i++) {
            int s = random.nextInt(3);
            long k = key();
            int n = 100 + random.nextInt(500);
            same("rise " + s + " " + k + " " + n, x.rise(s, k, n), r.rise(s, k, n));
            for (int c = 0; c < 12; c++) {
                call();
            }
        }
        compareAll(true);
    }
}
