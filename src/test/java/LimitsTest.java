/** The document's limits, and the deepest and longest structures that they leave room for. */
public final class LimitsTest extends Bench {
    public static void main(String[] args) {
        splitAtForty();
        entriesAndLedger();
        ledgerFullOfFinds();
        plainChain();
        plainChainOfValues();
        turningChain();
        upwardChain();
        skewSpine();
        longRows();
        CHECKS.end();
    }

    private static void riseToTheEnd(Counted x, int s, long key) {
        for (int i = 0; i < 10; i++) {
            due("rise " + i, x.rise(s, key + 2000L * i, 2000), 2000);
        }
    }

    private static void splitAtForty() {
        Counted x = of(TURNING);
        x.rise(0, 0, 100);
        for (int i = 1; i < 40; i++) {
            due("split", x.split(0, 100 - i), i);
            due("one goes", x.about(i, 1), 1);
        }
        int acts = x.count(2);
        due("split at 40", x.split(0, 5), FULL);
        due("refused is no act", x.count(2), acts);
        for (int i = 39; i > 0; i--) {
            due("join", x.join(0, i), 61 + 40 - i);
        }
        due("entries", x.count(1), 100);
    }

    private static void entriesAndLedger() {
        for (int kind = 0; kind < 6; kind++) {
            Counted x = of(kind);
            riseToTheEnd(x, 0, 0);
            due("entries", x.count(1), MOST);
            due("rows", x.count(2), MOST);
            due("held", x.about(0, 1), MOST);
            due("insert", x.insert(0, 1, 1), kind < 4 ? FULL : KIND);
            due("push", x.push(0, 1), kind < 4 ? KIND : FULL);
            due("rise", x.rise(0, 1, 5), 0);
            due("rise with a wrong n", x.rise(0, 1, 0), NONE);
            due("last row", x.ledger(MOST - 1, 0), 0);
            due("none behind it", x.ledger(MOST, 0), NONE);
            due("spread over all", x.spread(MOST), 0);
            due("spread over more", x.spread(MOST + 1), NONE);
            due("held as before", x.about(0, 1), MOST);
        }
    }

    private static void ledgerFullOfFinds() {
        Counted x = of(TURNING, TURNING);
        for (int i = 0; i < 10; i++) {
            x.rise(0, 1960L * i, 1960);
        }
        for (int i = 0; i < 400; i++) {
            due("find", x.find(0, 49L * i), 1);
        }
        due("rows", x.count(2), MOST);
        due("entries", x.count(1), 19600);
        due("no row for an insert", x.insert(0, 1, 1), FULL);
        due("no row for a join", x.join(1, 0), FULL);
        CHECKS.holds("purse covers potential", x.about(0, 5) >= x.about(0, 4));
    }

    private static void plainChain() {
        Counted x = of(PLAIN);
        for (int i = 0; i < 9; i++) {
            x.rise(0, 1 + 2000L * i, 2000);
        }
        due("away", x.about(0, 7), 17999);
        due("steps", x.about(0, 6), 18000 * 17999L / 2);
        due("depth of the last", x.node(0, 17999, 0), 17999);
        due("below the root", x.node(0, 0, 1), 18000);
        due("below a node", x.node(0, 9000, 1), 9000);
        due("key", x.nodeKey(0, 12345), 12346);
        due("find", x.find(0, 18000), 1);
        due("steps of it", x.ledger(18000, 2), 17999);
        due("the next too", x.find(0, 18001), 0);
        due("steps of it", x.ledger(18001, 2), 17999);
        due("drop in the middle", x.drop(0, 9000), 1);
        due("then the next", x.find(0, 9001), 1);
        due("steps of it", x.ledger(18003, 2), 8999);
        due("away", x.about(0, 7), 17998);
        due("it comes again", x.insert(0, 9000, 1), 1);
        due("under the next", x.ledger(18004, 2), 9000);
        due("away still", x.about(0, 7), 17998);
    }

    private static void plainChainOfValues() {
        Counted x = of(PLAIN);
        for (int i = 0; i < 10; i++) {
            x.rise(0, 0, 2000);
        }
        due("nodes", x.about(0, 1), 2000);
        due("entries", x.about(0, 2), MOST);
        due("values", x.node(0, 1999, 3), 10);
        due("steps", x.about(0, 6), 10 * (2000 * 1999L / 2));
        due("spread", x.spread(1), 1999);
        due("spread over a block", x.spread(2000), 0);
    }

    private static void turningChain() {
        Counted x = of(TURNING);
        for (int i = 0; i < 9; i++) {
            x.rise(0, 1 + 2000L * i, 2000);
        }
        due("away", x.about(0, 7), 17999);
        due("steps", x.about(0, 6), 2 * 17999);
        due("depth of the last", x.node(0, 17999, 0), 17999);
        due("find", x.find(0, 1), 1);
        due("steps of it", x.ledger(18000, 2), 17999 + 9000);
        due("spread", x.spread(1), 18000);
        due("half as far", x.about(0, 7), 9001);
        due("split", x.split(0, 9001), 1);
        due("nodes", x.about(1, 1), 9000);
        due("join", x.join(0, 1), 18000);
        CHECKS.holds("purse covers potential", x.about(0, 5) >= x.about(0, 4));
    }

    private static void upwardChain() {
        Counted x = of(UPWARD);
        for (int i = 0; i < 9; i++) {
            x.rise(0, 1 + 2000L * i, 2000);
        }
        due("away", x.about(0, 7), 17999);
        due("steps", x.about(0, 6), 17999);
        due("potential", x.about(0, 4), 0);
        due("pop", x.pop(0), 17999);
        due("no steps", x.ledger(18000, 2), 0);
        due("depth of the last", x.node(0, 17998, 0), 17998);
    }

    /** A root and then a last one by turns: the way right gets longer, until one act goes it all. */
    private static void skewSpine() {
        Counted x = of(SKEW);
        int n = 240;
        for (int i = 0; i < n; i++) {
            due("insert", x.insert(0, i % 2 == 0 ? n - i : n + i, i), i + 1);
        }
        // Of the lowest of them the right child has just half, not more.
        due("heavy right children", x.about(0, 4), n / 2 - 2);
        due("no dear act yet", x.ledger(x.spread(1), 2), 1);
        due("pop", x.pop(0), n - 1);
        due("goes through them all", x.ledger(n, 2), n / 2 - 1);
        due("and puts them left", x.about(0, 4), 0);
        long last = x.foundKey();
        for (int i = n - 2; i >= n - 50; i--) {
            due("pop", x.pop(0), i);
            CHECKS.holds("in order", last < x.foundKey());
            CHECKS.holds("purse covers potential", x.about(0, 5) >= x.about(0, 4));
            last = x.foundKey();
        }
    }

    private static void longRows() {
        Counted x = of(GAPPED);
        x.rise(0, 0, 513);
        due("places", x.about(0, 3), 1024);
        for (int i = 512; i > 256; i--) {
            due("pull", x.pull(0), i);
        }
        due("places", x.about(0, 3), 1024);
        due("potential", x.about(0, 4), 512 - 257);
        due("to a quarter", x.pull(0), 256);
        act("to a quarter", x, 0, 3, 257, 0);
        due("places", x.about(0, 3), 512);
        due("number", x.foundKey(), 256);
        due("the last of those left", x.at(0, 255), 255);
        x = of(DOUBLING);
        riseToTheEnd(x, 0, 5);
        due("places", x.about(0, 3), 32768);
        due("last", x.at(0, 19999), 20004);
        due("behind", x.at(0, 20000), 0);
        due("potential", x.about(0, 4), 2 * (20000 - 16384));
    }
}
