/** What the tests by hand share: names, new objects, and looks at several answers at once. */
abstract class Bench {
    static final int NONE = -1, KIND = -2, EMPTY = -3, ORDER = -4, FULL = -5;
    static final int PLAIN = 0, TURNING = 1, SKEW = 2, UPWARD = 3, DOUBLING = 4, GAPPED = 5;
    static final int MOST = 20000;
    static final long LEAST = Long.MIN_VALUE, GREATEST = Long.MAX_VALUE;
    static final Checks CHECKS = new Checks();

    static void sentence(String text) {
        CHECKS.sentence(text);
    }

    static void due(String call, long got, long want) {
        CHECKS.due(call, got, want);
    }

    static Counted of(int... kinds) {
        Counted x = new Counted();
        for (int i = 0; i < kinds.length; i++) {
            due("make " + kinds[i], x.make(kinds[i]), i);
        }
        return x;
    }

    /** Each key with ten times itself as its value. */
    static void insertAll(Counted x, int s, long... keys) {
        for (long key : keys) {
            x.insert(s, key, (int) key * 10);
        }
    }

    static Counted treeOf(int kind, long... keys) {
        Counted x = of(kind);
        insertAll(x, 0, keys);
        return x;
    }

    /** The keys of all nodes in the document's numbering. */
    static void keys(String what, Counted x, int s, long... keys) {
        due(what + ": nodes", x.about(s, 1), keys.length);
        for (int i = 0; i < keys.length; i++) {
            due(what + ": key of node " + i, x.nodeKey(s, i), keys[i]);
        }
        due(what + ": no node behind the last", x.node(s, keys.length, 0), NONE);
    }

    /** The latest row of the LEDGER. */
    static void act(String what, Counted x, int s, int price, int steps, int potential) {
        int row = x.count(2) - 1;
        due(what + ": structure", x.ledger(row, 0), s);
        due(what + ": price", x.ledger(row, 1), price);
        due(what + ": steps", x.ledger(row, 2), steps);
        due(what + ": potential", x.ledger(row, 3), potential);
    }

    static void steps(String what, Counted x, int steps) {
        due(what + ": steps", x.ledger(x.count(2) - 1, 2), steps);
    }

    static void found(String what, Counted x, long key, int value) {
        due(what + ": found key", x.foundKey(), key);
        due(what + ": found value", x.foundValue(), value);
    }

    /** Fills the LEDGER from a row's numbers, but for some of its rows. */
    static void fillLedger(Counted x, int row, int but) {
        int rest = MOST - but - x.count(2);
        while (rest > 0) {
            int n = Math.min(2000, rest);
            due("rise to fill", x.rise(row, 0, n), n);
            rest -= n;
        }
    }
}
