import java.util.Random;

/** Runs of calls, drawn from fixed seeds: every answer as Reference's. */
public final class AgainstReferenceTest {
    private static final int RUNS = 4000;
    /** So many calls are kept for looking at what the acts have left. */
    private static final int LOOKS = 250;
    /** What one draw of calls may take at the most, but for pulls. */
    private static final int MOST_OF_A_DRAW = 12;
    private static final long[] FAR_KEYS = {Long.MIN_VALUE, Long.MIN_VALUE + 1, Long.MAX_VALUE,
        Long.MAX_VALUE - 1, 0, -1, 1, Integer.MAX_VALUE, Integer.MIN_VALUE};

    private static boolean cameToTheEnd;

    private final Checks checks = new Checks();
    private Random random;
    private Counted x;
    private Reference r;
    private int keys;
    private int longestRise;
    private String run;

    public static void main(String[] args) throws InterruptedException {
        // The reference goes down its trees by recursion.
        Thread thread = new Thread(null, AgainstReferenceTest::all, "runs", 1L << 30);
        thread.start();
        thread.join();
        // What a thread throws does not end the program with 1 by itself.
        if (!cameToTheEnd) {
            System.exit(1);
        }
    }

    private static void all() {
        AgainstReferenceTest test = new AgainstReferenceTest();
        for (int seed = 0; seed < RUNS; seed++) {
            test.randomRun(seed);
        }
        for (int seed = 0; seed < 24; seed++) {
            test.fullRun(seed % 6, seed);
        }
        test.checks.end();
        cameToTheEnd = true;
    }

    private void begin(long seed, String name) {
        random = new Random(seed);
        x = new Counted();
        r = new Reference();
        run = name;
    }

    private void randomRun(int seed) {
        begin(seed, "run " + seed + ": ");
        keys = new int[] {6, 20, 60, 400, 100000}[seed % 5];
        longestRise = new int[] {3, 8, 30, 90}[random.nextInt(4)];
        // Some runs are all about one kind, the others mix.
        int favourite = random.nextInt(9);
        for (int i = 0; i < 2 + random.nextInt(5); i++) {
            same("make", x.make(i % 6), r.make(i % 6));
            if (favourite < 6) {
                same("make", x.make(favourite), r.make(favourite));
            }
        }
        while (x.left() > LOOKS) {
            call();
        }
        lookToTheEnd();
    }

    /** Thousands of entries in a few structures of one kind, by rise most of all. */
    private void fullRun(int kind, int seed) {
        begin(77 + seed, "full run " + seed + " of kind " + kind + ": ");
        keys = 4000;
        longestRise = 400;
        for (int i = 0; i < 3; i++) {
            same("make", x.make(kind), r.make(kind));
        }
        for (int i = 0; x.left() > LOOKS; i++) {
            int s = random.nextInt(3);
            long k = key();
            int n = 100 + random.nextInt(500);
            same("rise " + s + " " + k + " " + n, x.rise(s, k, n), r.rise(s, k, n));
            for (int c = 0; c < 12 && x.left() > LOOKS; c++) {
                call();
            }
        }
        lookToTheEnd();
    }

    private void lookToTheEnd() {
        for (int s = 0; s < r.count(0) && x.left() > LOOKS / 2; s++) {
            lookAtStructure(s);
        }
        while (x.left() >= MOST_OF_A_DRAW) {
            look(structure(), structure());
        }
    }

    private void same(String call, long got, long want) {
        checks.due(run + call, got, want);
    }

    private long key() {
        if (random.nextInt(40) == 0) {
            return FAR_KEYS[random.nextInt(FAR_KEYS.length)];
        }
        return random.nextInt(keys) - keys / 4;
    }

    private int structure() {
        if (random.nextInt(60) == 0) {
            return random.nextInt(5) - 2 + (random.nextBoolean() ? r.count(0) : 0);
        }
        return random.nextInt(r.count(0));
    }

    /** From -1 to one behind the last of so many. */
    private int about(int many) {
        return random.nextInt(many + 2) - 1;
    }

    private void call() {
        int s = structure();
        int t = structure();
        long k = key();
        int v = random.nextInt(10) - 3;
        switch (random.nextInt(26)) {
            case 0: case 1: case 2: case 3:
                same("insert " + s + " " + k, x.insert(s, k, v), r.insert(s, k, v));
                break;
            case 4: case 5:
                int n = random.nextInt(longestRise + 1) - (random.nextInt(9) == 0 ? 2 : 0);
                same("rise " + s + " " + k + " " + n, x.rise(s, k, n), r.rise(s, k, n));
                break;
            case 6: case 7:
                same("find " + s + " " + k, x.find(s, k), r.find(s, k));
                break;
            case 8: case 9: case 10: case 11:
                same("drop " + s + " " + k, x.drop(s, k), r.drop(s, k));
                break;
            case 12: same("below " + s + " " + k, x.below(s, k), r.below(s, k)); break;
            case 13: same("above " + s + " " + k, x.above(s, k), r.above(s, k)); break;
            case 14:
                if (random.nextInt(3) == 0) {
                    same("split " + s + " " + k, x.split(s, k), r.split(s, k));
                }
                break;
            case 15: case 16: same("join " + s + " " + t, x.join(s, t), r.join(s, t)); break;
            case 17: case 18: same("pop " + s, x.pop(s), r.pop(s)); break;
            case 19: same("meld " + s + " " + t, x.meld(s, t), r.meld(s, t)); break;
            case 20: case 21: same("push " + s, x.push(s, k), r.push(s, k)); break;
            case 22: case 23: pulls(s); break;
            default:
                same("foundKey", x.foundKey(), r.foundKey());
                same("foundValue", x.foundValue(), r.foundValue());
        }
    }

    private void pulls(int s) {
        int n = 1 + random.nextInt(1 + Math.min(40, longestRise / 2));
        for (int i = 0; i < n; i++) {
            same("pull " + s, x.pull(s), r.pull(s));
        }
    }

    private void lookAtStructure(int s) {
        for (int what = 1; what < 8; what++) {
            same("about " + s + " " + what, x.about(s, what), r.about(s, what));
        }
        // Beside PLAIN trees the purse covers the potential, as the document's first words say.
        checks.holds(run + "purse of " + s, r.about(s, 0) == 0 || x.about(s, 5) >= x.about(s, 4));
    }

    private void look(int s, int t) {
        int i = about(r.about(s, 1) < 0 ? 3 : r.about(s, 1));
        int row = about(r.count(2));
        int what = random.nextInt(10) - 1;
        int how = about(5);
        int n = random.nextInt(3) == 0 ? row : about(9);
        same("ledger " + row, x.ledger(row, 2), r.ledger(row, 2));
        same("ledger " + row, x.ledger(row, 3), r.ledger(row, 3));
        same("ledger " + row + " " + what, x.ledger(row, what), r.ledger(row, what));
        same("nodeKey " + s + " " + i, x.nodeKey(s, i), r.nodeKey(s, i));
        same("node " + s + " " + i + " " + what, x.node(s, i, what), r.node(s, i, what));
        same("node " + s + " " + i, x.node(s, i, 1), r.node(s, i, 1));
        same("at " + s + " " + i, x.at(s, i), r.at(s, i));
        same("about " + s + " " + what, x.about(s, what), r.about(s, what));
        same("price " + how + " " + s + " " + t, x.price(how, s, t), r.price(how, s, t));
        same("spread " + n, x.spread(n), r.spread(n));
        same("count " + how, x.count(how), r.count(how));
    }
}
