/** The document's limits, and the deepest and longest structures that they leave room for. */
public final class LimitsTest {
    private static final int NONE = -1, KIND = -2, EMPTY = -3, ORDER = -4, FULL = -5;
    private static final int MOST = 20000;
    private static final Checks CHECKS = new Checks();

    public static void main(String[] args) {
        fortyStructures();
        splitAtForty();
        entriesAndLedger();
        refusalsOfAFullLedger();
        ledgerFullOfFinds();
        riseEndsAheadOfFull();
        plainChain();
        plainChainOfValues();
        turningChain();
        upwardChain();
        skewSpine();
        longRows();
        CHECKS.end();
    }

    private static void due(String call, long got, long want) {
        CHECKS.due(call, got, want);
    }

    private static StepPurse of(int... kinds) {
        StepPurse x = new StepPurse();
        for (int kind : kinds) {
            x.make(kind);
        }
        return x;
    }

    private static void riseToTheEnd(StepPurse x, int s, long key) {
        for (int i = 0; i < 10; i++) {
            due("rise " + i, x.rise(s, key + 2000L * i, 2000), 2000);
        }
    }

    private static void fortyStructures() {
        StepPurse x = new StepPurse();
        for (int i = 0; i < 40; i++) {
            due("make", x.make(i % 6), i);
        }
        due("40 are there", x.make(0), FULL);
        due("no such kind ahead of full", x.make(6), NONE);
        due("no such kind ahead of full", x.make(-1), NONE);
        due("count", x.count(0), 40);
        due("the last", x.about(39, 0), 39 % 6);
        due("none behind it", x.about(40, 0), NONE);
    }

    private static void splitAtForty() {
        StepPurse x = of(1);
        x.rise(0, 0, 100);
        for (int i = 1; i < 40; i++) {
            due("split", x.split(0, 100 - i), i);
            due("one goes", x.about(i, 1), 1);
        }
        int acts = x.count(2);
        due("split at 40", x.split(0, 5), FULL);
        due("kind ahead of full", of40Kinds().split(0, 5), KIND);
        due("no such ahead of full", x.split(40, 5), NONE);
        due("refused is no act", x.count(2), acts);
        for (int i = 39; i > 0; i--) {
            due("join", x.join(0, i), 61 + 40 - i);
        }
        due("entries", x.count(1), 100);
    }

    private static StepPurse of40Kinds() {
        StepPurse x = new StepPurse();
        for (int i = 0; i < 40; i++) {
            x.make(0);
        }
        return x;
    }

    private static void entriesAndLedger() {
        for (int kind = 0; kind < 6; kind++) {
            StepPurse x = of(kind);
            riseToTheEnd(x, 0, 0);
            due("entries", x.count(1), MOST);
            due("rows", x.count(2), MOST);
            due("held", x.about(0, 1), MOST);
            due("insert", x.insert(0, 1, 1), kind < 4 ? FULL : KIND);
            due("push", x.push(0, 1), kind < 4 ? KIND : FULL);
            due("rise", x.rise(0, 1, 5), 0);
            due("rise with a wrong n", x.rise(0, 1, 0), NONE);
            due("last row", x.ledger(MOST - 1, 0), 0);
            due("none behind it", x.ledger(MOST, 0), NONE);
            due("spread over all", x.spread(MOST), 0);
            due("spread over more", x.spread(MOST + 1), NONE);
            due("held as before", x.about(0, 1), MOST);
        }
    }

    private static void refusalsOfAFullLedger() {
        StepPurse x = of(4, 0, 1, 1, 2, 2, 3, 5);
        x.insert(1, 5, 5);
        x.insert(2, 5, 5);
        x.insert(3, 5, 5);
        x.insert(4, 5, 5);
        while (x.rise(0, 0, 2000) == 2000) {
            continue;
        }
        due("rows", x.count(2), MOST);
        due("find", x.find(1, 5), FULL);
        due("drop", x.drop(2, 5), FULL);
        due("below", x.below(2, 6), FULL);
        due("above", x.above(1, 4), FULL);
        due("split", x.split(2, 5), FULL);
        due("join: order is ahead", x.join(2, 3), ORDER);
        due("join: kind is ahead", x.join(1, 2), KIND);
        due("pop", x.pop(4), FULL);
        due("pop: empty is ahead", x.pop(5), EMPTY);
        due("meld", x.meld(4, 5), FULL);
        due("meld: kind is ahead", x.meld(4, 6), KIND);
        due("push", x.push(7, 1), FULL);
        due("pull", x.pull(0), FULL);
        due("pull: empty is ahead", x.pull(7), EMPTY);
        due("insert", x.insert(4, 1, 1), FULL);
        due("rise", x.rise(5, 1, 1), 0);
        due("nothing is found", x.foundKey() + x.foundValue(), 0);
        due("structures", x.count(0), 8);
        due("make is no act", x.make(0), 8);
        due("prices are told still", x.price(3, 4, 0), 4);
        due("entries", x.count(1), MOST);
    }

    private static void ledgerFullOfFinds() {
        StepPurse x = of(1, 1);
        x.rise(0, 0, 100);
        for (int i = 0; i < MOST - 100; i++) {
            x.find(0, i % 100);
        }
        due("rows", x.count(2), MOST);
        due("entries", x.count(1), 100);
        due("no row for an insert", x.insert(0, 1, 1), FULL);
        due("no row for a join", x.join(1, 0), FULL);
        CHECKS.holds("purse covers potential", x.about(0, 5) >= x.about(0, 4));
    }

    private static void riseEndsAheadOfFull() {
        StepPurse x = of(5, 2);
        for (int i = 0; i < 9; i++) {
            x.rise(0, 0, 2000);
        }
        x.rise(0, 0, 1997);
        due("the last three", x.rise(1, 7, 5), 3);
        due("nodes", x.about(1, 1), 3);
        due("then none", x.rise(1, 7, 5), 0);
    }

    private static void plainChain() {
        StepPurse x = of(0);
        for (int i = 0; i < 9; i++) {
            x.rise(0, 1 + 2000L * i, 2000);
        }
        due("away", x.about(0, 7), 17999);
        due("steps", x.about(0, 6), 18000 * 17999L / 2);
        due("depth of the last", x.node(0, 17999, 0), 17999);
        due("below the root", x.node(0, 0, 1), 18000);
        due("below a node", x.node(0, 9000, 1), 9000);
        due("key", x.nodeKey(0, 12345), 12346);
        due("find", x.find(0, 18000), 1);
        due("steps of it", x.ledger(18000, 2), 17999);
        due("the next too", x.find(0, 18001), 0);
        due("steps of it", x.ledger(18001, 2), 17999);
        due("drop in the middle", x.drop(0, 9000), 1);
        due("then the next", x.find(0, 9001), 1);
        due("steps of it", x.ledger(18003, 2), 8999);
        due("away", x.about(0, 7), 17998);
        due("it comes again", x.insert(0, 9000, 1), 1);
        due("under the next", x.ledger(18004, 2), 9000);
        due("away still", x.about(0, 7), 17998);
    }

    private static void plainChainOfValues() {
        StepPurse x = of(0);
        for (int i = 0; i < 10; i++) {
            x.rise(0, 0, 2000);
        }
        due("nodes", x.about(0, 1), 2000);
        due("entries", x.about(0, 2), MOST);
        due("values", x.node(0, 1999, 3), 10);
        due("steps", x.about(0, 6), 10 * (2000 * 1999L / 2));
        due("spread", x.spread(1), 1999);
        due("spread over a block", x.spread(2000), 0);
    }

    private static void turningChain() {
        StepPurse x = of(1);
        for (int i = 0; i < 9; i++) {
            x.rise(0, 1 + 2000L * i, 2000);
        }
        due("away", x.about(0, 7), 17999);
        due("steps", x.about(0, 6), 2 * 17999);
        due("depth of the last", x.node(0, 17999, 0), 17999);
        due("find", x.find(0, 1), 1);
        due("steps of it", x.ledger(18000, 2), 17999 + 9000);
        due("spread", x.spread(1), 18000);
        due("half as far", x.about(0, 7), 9001);
        due("split", x.split(0, 9001), 1);
        due("nodes", x.about(1, 1), 9000);
        due("join", x.join(0, 1), 18000);
        CHECKS.holds("purse covers potential", x.about(0, 5) >= x.about(0, 4));
    }

    private static void upwardChain() {
        StepPurse x = of(3);
        for (int i = 0; i < 9; i++) {
            x.rise(0, 1 + 2000L * i, 2000);
        }
        due("away", x.about(0, 7), 17999);
        due("steps", x.about(0, 6), 17999);
        due("potential", x.about(0, 4), 0);
        due("pop", x.pop(0), 17999);
        due("no steps", x.ledger(18000, 2), 0);
        due("depth of the last", x.node(0, 17998, 0), 17998);
    }

    /** A root and then a last one by turns: the way right gets longer, until one act goes it all. */
    private static void skewSpine() {
        StepPurse x = of(2);
        int n = 4000;
        for (int i = 0; i < n; i++) {
            due("insert", x.insert(0, i % 2 == 0 ? n - i : n + i, i), i + 1);
        }
        // Of the lowest of them the right child has just half, not more.
        due("heavy right children", x.about(0, 4), n / 2 - 2);
        due("no dear act yet", x.ledger(x.spread(1), 2), 1);
        due("pop", x.pop(0), n - 1);
        due("goes through them all", x.ledger(n, 2), n / 2 - 1);
        due("and puts them left", x.about(0, 4), 0);
        long last = x.foundKey();
        for (int i = n - 2; i >= 0; i--) {
            due("pop", x.pop(0), i);
            CHECKS.holds("in order", last < x.foundKey());
            CHECKS.holds("purse covers potential", x.about(0, 5) >= x.about(0, 4));
            last = x.foundKey();
        }
    }

    private static void longRows() {
        StepPurse x = of(4, 5);
        for (int i = 0; i < 5; i++) {
            x.rise(1, 2000L * i, 2000);
        }
        due("places", x.about(1, 3), 16384);
        for (int i = 9999; i >= 0; i--) {
            due("pull", x.pull(1), i);
            due("number", x.foundKey(), i);
        }
        due("places", x.about(1, 3), 4);
        due("potential", x.about(1, 4), 2);
        due("rows", x.count(2), MOST);
        x = of(4);
        riseToTheEnd(x, 0, 5);
        due("places", x.about(0, 3), 32768);
        due("last", x.at(0, 19999), 20004);
        due("behind", x.at(0, 20000), 0);
        due("potential", x.about(0, 4), 2 * (20000 - 16384));
    }
}
