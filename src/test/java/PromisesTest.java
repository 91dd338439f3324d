/** Each promise by hand: ordinary calls, the edges that the document names, and wrong ones. */
public final class PromisesTest extends Bench {
    public static void main(String[] args) {
        newObject();
        make();
        insertIntoTrees();
        insertIntoHeaps();
        rise();
        find();
        turnsUp();
        dropFromPlain();
        dropFromTurning();
        dropValues();
        belowAndAbove();
        split();
        splitEdges();
        join();
        joinEdges();
        pop();
        meld();
        push();
        pull();
        at();
        found();
        about();
        price();
        node();
        ledger();
        spread();
        count();
        CHECKS.end();
    }

    private static void newObject() {
        Counted x = new Counted();
        for (int what = 0; what < 3; what++) {
            due("new: count " + what, x.count(what), 0);
        }
        due("new: foundKey", x.foundKey(), 0);
        due("new: foundValue", x.foundValue(), 0);
        due("new: about", x.about(0, 0), NONE);
        due("new: at", x.at(0, 0), 0);
        due("new: nodeKey", x.nodeKey(0, 0), 0);
        due("new: node", x.node(0, 0, 0), NONE);
        due("new: ledger", x.ledger(0, 0), NONE);
        due("new: spread", x.spread(1), NONE);
        due("new: find", x.find(0, 0), NONE);
        due("new: insert", x.insert(0, 0, 0), NONE);
        due("new: price", x.price(0, 0, 0), NONE);
    }

    private static void make() {
        Counted x = new Counted();
        due("make -1", x.make(-1), NONE);
        due("make 6", x.make(6), NONE);
        due("make least int", x.make(Integer.MIN_VALUE), NONE);
        due("make greatest int", x.make(Integer.MAX_VALUE), NONE);
        for (int kind = 0; kind < 6; kind++) {
            due("make " + kind, x.make(kind), kind);
            due("kind of " + kind, x.about(kind, 0), kind);
            due("nodes of " + kind, x.about(kind, 1), 0);
            due("purse of " + kind, x.about(kind, 5), kind == GAPPED ? 2 : 0);
        }
        due("make is no act", x.count(2), 0);
    }

    private static void insertIntoTrees() {
        for (int kind = PLAIN; kind <= TURNING; kind++) {
            Counted x = of(kind, DOUBLING);
            due("first", x.insert(0, 5, 1), 1);
            act("first", x, 0, 24, 0, 0);
            due("second value", x.insert(0, 5, 2), 2);
            due("third value", x.insert(0, 5, 3), 3);
            act("third value", x, 0, 48, 0, 0);
            due("nodes", x.about(0, 1), 1);
            due("entries", x.about(0, 2), 3);
            due("least key", x.insert(0, Long.MIN_VALUE, 2), 1);
            due("greatest key", x.insert(0, Long.MAX_VALUE, 2), 1);
            due("greatest key again", x.insert(0, Long.MAX_VALUE, 2), 2);
            due("a row", x.insert(1, 5, 1), KIND);
            due("none", x.insert(2, 5, 1), NONE);
            due("-1", x.insert(-1, 5, 1), NONE);
        }
        Counted x = of(PLAIN);
        insertAll(x, 0, 5, 2, 8, 6, 9, 7);
        act("plain", x, 0, 72, 3, 0);
        keys("plain", x, 0, 5, 2, 8, 6, 7, 9);
        due("plain steps", x.about(0, 6), 0 + 1 + 1 + 2 + 2 + 3);
        due("purse of plain", x.about(0, 5), 24 + 48 + 48 + 72 + 72 + 72 - 9);
    }

    private static void insertIntoHeaps() {
        Counted x = of(SKEW, UPWARD);
        due("first", x.insert(0, 5, 1), 1);
        act("first", x, 0, 4, 0, 0);
        due("second", x.insert(0, 3, 2), 2);
        act("second", x, 0, 4, 1, 0);
        keys("skew", x, 0, 3, 5);
        due("child is left", x.node(0, 0, 2), 1);
        due("third", x.insert(0, 4, 3), 3);
        act("third", x, 0, 6, 1, 0);
        keys("skew: what was left hangs right", x, 0, 3, 4, 5);
        insertAll(x, 1, 1, 2, 3);
        keys("upward: greatest first", x, 1, 3, 2, 1);
        due("upward hangs left", x.about(1, 7), 2);
    }

    private static void rise() {
        Counted x = of(PLAIN, TURNING, SKEW, UPWARD, DOUBLING, GAPPED);
        for (int s = 0; s < 6; s++) {
            due("rise", x.rise(s, 7, 5), 5);
            due("held", x.about(s, 1), 5);
            due("n 0", x.rise(s, 7, 0), NONE);
            due("n below 0", x.rise(s, 7, -3), NONE);
            due("n 2001", x.rise(s, 7, 2001), NONE);
        }
        due("acts", x.count(2), 30);
        due("no such", x.rise(6, 7, 5), NONE);
        due("no such and wrong n", x.rise(-1, 7, 0), NONE);
        due("value of the last", x.find(0, 11) + x.foundValue(), 1 + 4);
        due("pushed", x.at(4, 4), 11);
        due("n 2000", x.rise(0, 0, 2000), 2000);
        due("n 1", x.rise(0, 0, 1), 1);
        due("values join others", x.find(0, 7), 2);
        due("the older value is first", x.foundValue(), 0);
        due("and key 8 too", x.find(0, 8), 2);
        due("with its older value", x.foundValue(), 1);
        riseRoundTheEnd();
        riseThroughOthers();
    }

    private static void riseRoundTheEnd() {
        for (int kind = PLAIN; kind <= TURNING; kind++) {
            Counted x = of(kind, GAPPED);
            due("round the end", x.rise(0, Long.MAX_VALUE - 1, 4), 4);
            due("least", x.find(0, Long.MIN_VALUE), 1);
            due("value of least", x.foundValue(), 2);
            due("above least", x.above(0, Long.MIN_VALUE), 1);
            due("is the next", x.foundKey(), Long.MIN_VALUE + 1);
            due("above greatest", x.above(0, Long.MAX_VALUE), 0);
            due("below least", x.below(0, Long.MIN_VALUE), 0);
            x.rise(1, Long.MAX_VALUE, 2);
            due("in a row", x.at(1, 1), Long.MIN_VALUE);
        }
    }

    /** The way to the next key may end at a node that hangs higher, or go on below the latest. */
    private static void riseThroughOthers() {
        Counted x = of(PLAIN);
        insertAll(x, 0, 10, 3, 5, 4, 7);
        int first = x.count(2);
        x.rise(0, 2, 10);
        int[] steps = {2, 1, 3, 2, 4, 3, 4, 5, 0, 1};
        for (int i = 0; i < steps.length; i++) {
            due("steps of rise to " + (2 + i), x.ledger(first + i, 2), steps[i]);
        }
        keys("rise through others", x, 0, 10, 3, 2, 5, 4, 7, 6, 8, 9, 11);
    }

    private static void find() {
        Counted x = of(PLAIN, TURNING, SKEW, DOUBLING);
        due("empty plain", x.find(0, 4), 0);
        act("empty plain", x, 0, 24, 0, 0);
        due("empty turning", x.find(1, 4), 0);
        act("empty turning", x, 1, 24, 0, 0);
        insertAll(x, 0, 5, 2, 8, 6);
        x.insert(0, 6, -1);
        due("met", x.find(0, 6), 2);
        act("met", x, 0, 72, 2, 0);
        due("key", x.foundKey(), 6);
        due("value", x.foundValue(), 60);
        due("not met", x.find(0, 7), 0);
        act("not met", x, 0, 72, 2, 0);
        due("found stays", x.foundKey(), 6);
        keys("plain does not turn", x, 0, 5, 2, 8, 6);
        due("heap", x.find(2, 6), KIND);
        due("row", x.find(3, 6), KIND);
        due("none", x.find(4, 6), NONE);
        due("least", x.find(Integer.MIN_VALUE, 6), NONE);
    }

    private static void turnsUp() {
        Counted x = of(TURNING);
        x.rise(0, 1, 5);
        keys("a chain", x, 0, 5, 4, 3, 2, 1);
        due("both turns on one side", x.find(0, 1), 1);
        act("1 turned up", x, 0, 72, 4 + 2, 3 * (2 + 2 + 1));
        keys("1 turned up", x, 0, 1, 4, 2, 3, 5);
        due("on different sides", x.find(0, 3), 1);
        act("3 turned up", x, 0, 72, 3 + 2, 3 * (2 + 1 + 1));
        keys("3 turned up", x, 0, 3, 1, 2, 4, 5);
        due("what is not met turns its last", x.find(0, 6), 0);
        act("5 turned up", x, 0, 72, 2 + 1, 3 * (2 + 2 + 1 + 1));
        keys("5 turned up", x, 0, 5, 4, 3, 1, 2);
        due("the root itself", x.find(0, 5), 1);
        act("nothing to turn", x, 0, 72, 0, 18);
        due("under the root", x.find(0, 4), 1);
        act("one turn", x, 0, 72, 2, 3 * (2 + 1 + 1));
        due("a new one is turned up", x.insert(0, 0, 9), 1);
        act("0 turned up", x, 0, 72, 3 + 2, 3 * (2 + 2 + 1 + 1));
        keys("0 turned up", x, 0, 0, 4, 1, 3, 2, 5);
        due("another value turns up, too", x.insert(0, 2, 9), 2);
        due("its node is the root", x.nodeKey(0, 0), 2);
    }

    private static void dropFromPlain() {
        Counted x = of(PLAIN, SKEW, GAPPED);
        due("empty", x.drop(0, 1), 0);
        act("empty", x, 0, 24, 0, 0);
        insertAll(x, 0, 50, 20, 80, 10, 40, 30, 35, 70, 90);
        due("not there", x.drop(0, 31), 0);
        act("not there", x, 0, 96, 4, 0);
        due("two children", x.drop(0, 50), 1);
        act("two children", x, 0, 96, 2, 0);
        due("found key", x.foundKey(), 50);
        due("found value", x.foundValue(), 500);
        keys("the left side's greatest comes", x, 0, 40, 20, 10, 30, 35, 80, 70, 90);
        due("heir's value", x.node(0, 0, 4), 400);
        due("left child alone is the heir", x.drop(0, 80), 1);
        act("left child is the heir", x, 0, 96, 1 + 1, 0);
        keys("70 for 80", x, 0, 40, 20, 10, 30, 35, 70, 90);
        due("no left child", x.drop(0, 70), 1);
        act("no left child", x, 0, 96, 1, 0);
        keys("90 for 70", x, 0, 40, 20, 10, 30, 35, 90);
        due("leaf", x.drop(0, 10), 1);
        due("no left child, deeper", x.drop(0, 20), 1);
        keys("30 for 20", x, 0, 40, 30, 35, 90);
        due("leaf to the right", x.drop(0, 90), 1);
        due("root without right child", x.drop(0, 40), 1);
        keys("30 is the root", x, 0, 30, 35);
        due("root without left child", x.drop(0, 30), 1);
        due("the last", x.drop(0, 35), 1);
        keys("nothing", x, 0);
        due("again", x.drop(0, 35), 0);
        due("then rise starts anew", x.rise(0, 36, 3), 3);
        keys("new", x, 0, 36, 37, 38);
        due("heap", x.drop(1, 1), KIND);
        due("row", x.drop(2, 1), KIND);
        due("none", x.drop(3, 1), NONE);
    }

    private static void dropFromTurning() {
        Counted x = of(TURNING);
        due("empty", x.drop(0, 1), 0);
        act("empty", x, 0, 24, 0, 0);
        x.rise(0, 1, 5);
        due("not there", x.drop(0, 9), 0);
        act("not there", x, 0, 72, 0, 3 * (2 + 2 + 1 + 1));
        due("no left child", x.drop(0, 1), 1);
        act("no left child", x, 0, 72, 4 + 2, 3 * (2 + 1));
        keys("what hung right", x, 0, 4, 2, 3, 5);
        due("both children", x.drop(0, 4), 1);
        act("both children: one going, one turn", x, 0, 72, 0 + 1 + 1, 3 * (1 + 0 + 0));
        keys("3 is the root", x, 0, 3, 2, 5);
        due("turned up first, then it goes", x.drop(0, 5), 1);
        act("no right child", x, 0, 72, 2, 3);
        keys("3 stays", x, 0, 3, 2);
        due("foundKey", x.foundKey(), 5);
        due("foundValue", x.foundValue(), 4);
        due("2", x.drop(0, 2), 1);
        due("3", x.drop(0, 3), 1);
        act("last", x, 0, 48, 0, 0);
        keys("nothing", x, 0);
    }

    private static void dropValues() {
        for (int kind = PLAIN; kind <= TURNING; kind++) {
            Counted x = of(kind);
            x.insert(0, 5, 1);
            x.insert(0, 7, 4);
            x.insert(0, 5, 2);
            x.insert(0, 5, 3);
            for (int value = 1; value <= 3; value++) {
                due("drop " + value, x.drop(0, 5), 1);
                due("its value", x.foundValue(), value);
                due("entries", x.about(0, 2), 4 - value);
                due("values", x.find(0, 5), 3 - value);
            }
            due("nodes", x.about(0, 1), 1);
            due("none left", x.drop(0, 5), 0);
            due("found stays", x.foundValue(), 3);
            due("another comes", x.insert(0, 5, 8), 1);
            due("count", x.count(1), 2);
        }
    }

    private static void belowAndAbove() {
        Counted x = of(PLAIN, TURNING, UPWARD, DOUBLING);
        for (int s = 0; s < 2; s++) {
            due("below in empty", x.below(s, 4), 0);
            act("below in empty", x, s, 24, 0, 0);
            due("above in empty", x.above(s, 4), 0);
            insertAll(x, s, 50, 20, 80, 30, 70);
            x.insert(s, 30, 6);
            due("below 50", x.below(s, 50), 1);
            due("is 30", x.foundKey(), 30);
            due("its first value", x.foundValue(), 300);
            due("above 50", x.above(s, 50), 1);
            due("is 70", x.foundKey(), 70);
            due("below 51", x.below(s, 51), 1);
            due("is 50", x.foundKey(), 50);
            due("above 20", x.above(s, 20), 1);
            due("is 30", x.foundKey(), 30);
            due("above 80", x.above(s, 80), 0);
            due("below 20", x.below(s, 20), 0);
            due("found stays", x.foundKey(), 30);
            due("below greatest", x.below(s, Long.MAX_VALUE), 1);
            due("is 80", x.foundKey(), 80);
            due("above least", x.above(s, Long.MIN_VALUE), 1);
            due("is 20", x.foundKey(), 20);
        }
        due("below: heap", x.below(2, 1), KIND);
        due("below: row", x.below(3, 1), KIND);
        due("below: none", x.below(4, 1), NONE);
        due("above: heap", x.above(2, 1), KIND);
        due("above: row", x.above(3, 1), KIND);
        due("above: none", x.above(-1, 1), NONE);
        waysBeside();
    }

    private static void waysBeside() {
        Counted x = of(PLAIN, TURNING);
        insertAll(x, 0, 50, 20, 80, 30);
        x.below(0, 50);
        act("past the key itself", x, 0, 72, 2, 0);
        x.below(0, 20);
        act("below 20 goes left of it", x, 0, 72, 1, 0);
        x.above(0, 20);
        act("above 20 goes right of it", x, 0, 72, 2, 0);
        x.above(0, 30);
        act("above 30 ends at 30", x, 0, 72, 2, 0);
        x.rise(1, 1, 5);
        x.below(1, 3);
        act("the last one turns up", x, 1, 72, 3 + 2, 3 * (2 + 1 + 1));
        keys("which is 2, being below 3", x, 1, 2, 1, 5, 3, 4);
        x.above(1, 3);
        keys("above 3 goes past it to 4", x, 1, 4, 2, 1, 3, 5);
    }

    private static void split() {
        Counted x = of(TURNING, PLAIN, SKEW, GAPPED);
        x.rise(0, 1, 5);
        x.insert(0, 4, 77);
        int purse = x.about(0, 5);
        int price = x.price(0, 0, 0);
        due("split at 3", x.split(0, 3), 4);
        int steps = x.ledger(x.count(2) - 1, 2);
        due("kind", x.about(4, 0), TURNING);
        due("less stay", x.about(0, 1), 2);
        due("others go", x.about(4, 1), 3);
        due("values that stay", x.about(0, 2), 2);
        due("values that go", x.about(4, 2), 4);
        due("new purse", x.about(4, 5), x.about(4, 4));
        due("old purse", x.about(0, 5), purse + price - steps - x.about(4, 4));
        due("potential in the ledger", x.ledger(x.count(2) - 1, 3), x.about(0, 4));
        due("structure in the ledger", x.ledger(x.count(2) - 1, 0), 0);
        due("no steps in the new one", x.about(4, 6), 0);
        due("plain", x.split(1, 1), KIND);
        due("heap", x.split(2, 1), KIND);
        due("row", x.split(3, 1), KIND);
        due("none", x.split(5, 1), NONE);
        due("found is as before", x.foundKey(), 0);
    }

    private static void splitEdges() {
        Counted x = of(TURNING);
        due("empty", x.split(0, 7), 1);
        act("empty", x, 0, 24, 0, 0);
        x.rise(0, 1, 3);
        due("root less: 3 at root", x.split(0, 4), 2);
        act("nothing goes", x, 0, 72, 0, 6);
        keys("all stay", x, 0, 3, 2, 1);
        due("at the root's key", x.split(0, 3), 3);
        act("goes left to 2", x, 0, 72, 1 + 1, 3);
        keys("2 and 1 stay", x, 0, 2, 1);
        keys("3 goes", x, 3, 3);
        due("all go", x.split(0, 1), 4);
        act("all go", x, 0, 48, 1 + 1, 0);
        keys("none stay", x, 0);
        keys("all are there", x, 4, 1, 2);
        due("still usable", x.insert(4, 0, 5), 1);
        due("and the empty one", x.insert(0, 0, 5), 1);
    }

    private static void join() {
        Counted x = of(TURNING, TURNING, PLAIN, SKEW, GAPPED);
        insertAll(x, 0, 3, 2, 1);
        insertAll(x, 1, 7, 8, 9);
        x.insert(1, 8, 5);
        int purses = x.about(0, 5) + x.about(1, 5);
        int stepsOfSecond = x.about(1, 6);
        due("price", x.price(1, 0, 1), 72);
        due("wrong way", x.join(1, 0), ORDER);
        due("join", x.join(0, 1), 6);
        act("join", x, 0, 72, 2 + 1, 3 * (2 + 1 + 1));
        keys("joined", x, 0, 3, 2, 1, 8, 7, 9);
        due("entries", x.about(0, 2), 7);
        due("both purses", x.about(0, 5), purses + 72 - 3);
        due("second's purse", x.about(1, 5), 0);
        due("second's potential", x.about(1, 4), 0);
        due("second's nodes", x.about(1, 1), 0);
        due("second's entries", x.about(1, 2), 0);
        due("second's steps stay its own", x.about(1, 6), stepsOfSecond);
        due("none first", x.join(9, 0), NONE);
        due("none second", x.join(0, -1), NONE);
        due("none ahead of kind", x.join(2, 9), NONE);
        due("one and the same", x.join(0, 0), KIND);
        due("plain", x.join(0, 2), KIND);
        due("plain first", x.join(2, 0), KIND);
        due("heap", x.join(3, 0), KIND);
        due("row", x.join(0, 4), KIND);
    }

    private static void joinEdges() {
        Counted x = of(TURNING, TURNING, TURNING);
        due("both empty", x.join(0, 1), 0);
        act("both empty", x, 0, 24, 0, 0);
        insertAll(x, 1, 3, 2, 1);
        due("second empty", x.join(1, 0), 3);
        act("still goes and turns", x, 1, 72, 2 + 1, 3 * (1 + 1));
        keys("3 turned up", x, 1, 3, 2, 1);
        due("first empty", x.join(0, 1), 3);
        act("as it is", x, 0, 72, 0, 6);
        keys("as it is", x, 0, 3, 2, 1);
        x.insert(1, 3, 0);
        due("an equal key", x.join(0, 1), ORDER);
        due("an equal key, the other way", x.join(1, 0), ORDER);
        x.insert(2, 4, 0);
        due("least greater", x.join(0, 2), 4);
        due("refused is no act", x.count(2), 3 + 1 + 1 + 1 + 1 + 1 + 1);
    }

    private static void pop() {
        Counted x = of(SKEW, UPWARD, PLAIN, DOUBLING);
        due("empty", x.pop(0), EMPTY);
        due("no act", x.count(2), 0);
        long[] keys = {5, 3, 8, 3, 5, Long.MIN_VALUE, Long.MAX_VALUE};
        for (int i = 0; i < keys.length; i++) {
            x.insert(0, keys[i], i);
            x.insert(1, keys[i], i);
        }
        int[] least = {5, 1, 3, 0, 4, 2, 6};
        int[] greatest = {6, 2, 0, 4, 1, 3, 5};
        for (int i = 0; i < keys.length; i++) {
            due("left", x.pop(0), keys.length - 1 - i);
            due("key", x.foundKey(), keys[least[i]]);
            due("value", x.foundValue(), least[i]);
            due("left upward", x.pop(1), keys.length - 1 - i);
            due("key upward", x.foundKey(), keys[greatest[i]]);
            due("value upward", x.foundValue(), greatest[i]);
        }
        due("empty again", x.pop(1), EMPTY);
        due("tree", x.pop(2), KIND);
        due("row", x.pop(3), KIND);
        due("none", x.pop(4), NONE);
        popAccounts();
    }

    private static void popAccounts() {
        Counted x = of(SKEW);
        insertAll(x, 0, 1, 2, 3, 4, 5);
        keys("before", x, 0, 1, 3, 5, 2, 4);
        due("price", x.price(3, 0, 0), 2 * (1 + 1 + 2));
        due("pop", x.pop(0), 4);
        act("pop", x, 0, 8, 1, 0);
        keys("behind", x, 0, 2, 3, 5, 4);
        due("pop", x.pop(0), 3);
        act("2 and 1 nodes", x, 0, 2 * (1 + 0 + 2), 1, 0);
        keys("behind", x, 0, 3, 4, 5);
        due("pop", x.pop(0), 2);
        act("leaves", x, 0, 4, 1, 0);
        keys("behind", x, 0, 4, 5);
        due("pop", x.pop(0), 1);
        act("one child", x, 0, 4, 0, 0);
        due("pop", x.pop(0), 0);
        act("the last", x, 0, 4, 0, 0);
        // The child 2, turned to the right under 1, has more than half of the nodes there.
        x = of(SKEW);
        insertAll(x, 0, 2, 4, 5, 1, 6);
        keys("heavy", x, 0, 1, 6, 2, 5, 4);
        due("heavy right child", x.about(0, 4), 1);
        act("heavy right child", x, 0, 2 * (2 + 0 + 2), 1, 1);
        due("pop of it", x.pop(0), 4);
        act("pop of it", x, 0, 2 * (0 + 1 + 2), 2, 0);
    }

    private static void meld() {
        Counted x = of(SKEW, SKEW, UPWARD, UPWARD, TURNING, DOUBLING);
        due("both empty", x.meld(0, 1), 0);
        act("both empty", x, 0, 4, 0, 0);
        insertAll(x, 0, 1, 5, 9);
        insertAll(x, 1, 2, 6, 7, 8);
        int purses = x.about(0, 5) + x.about(1, 5);
        due("meld", x.meld(0, 1), 7);
        int steps = x.ledger(x.count(2) - 1, 2);
        due("price", x.ledger(x.count(2) - 1, 1), 2 * (1 + 2 + 2));
        due("steps", steps, 3);
        due("both purses", x.about(0, 5), purses + 10 - steps);
        due("second's purse", x.about(1, 5), 0);
        due("second's nodes", x.about(1, 1), 0);
        due("second's potential", x.about(1, 4), 0);
        keys("melded", x, 0, 1, 2, 5, 7, 6, 8, 9);
        due("first is empty", x.meld(1, 0), 7);
        act("first is empty", x, 1, 2 * (0 + 2 + 2), 0, x.about(1, 4));
        due("second is empty", x.meld(1, 0), 7);
        due("equal keys, older in the second", meldEqual(x), 1);
        due("none", x.meld(0, 6), NONE);
        due("none first", x.meld(-1, 0), NONE);
        due("none ahead of kind", x.meld(4, 6), NONE);
        due("kinds differ", x.meld(0, 2), KIND);
        due("one and the same", x.meld(0, 0), KIND);
        due("tree", x.meld(4, 0), KIND);
        due("row", x.meld(0, 5), KIND);
    }

    private static int meldEqual(Counted x) {
        x.insert(3, 4, 1);
        x.insert(2, 4, 2);
        x.meld(2, 3);
        x.pop(2);
        return x.foundValue();
    }

    private static void push() {
        Counted x = of(DOUBLING, GAPPED, PLAIN, SKEW);
        for (int s = 0; s < 2; s++) {
            for (int i = 1; i <= 17; i++) {
                due("push", x.push(s, i * i), i);
                boolean copies = i == 5 || i == 9 || i == 17;
                int places = i <= 4 ? 4 : i <= 8 ? 8 : i <= 16 ? 16 : 32;
                int over = i - places / 2;
                int potential = over > 0 ? 2 * over : s == 1 ? -over : 0;
                act("push " + i, x, s, 3, copies ? i : 1, potential);
                due("places", x.about(s, 3), places);
            }
            due("numbers", x.about(s, 1), 17);
            due("entries", x.about(s, 2), 17);
            due("steps", x.about(s, 6), 17 + 4 + 8 + 16);
        }
        due("tree", x.push(2, 1), KIND);
        due("heap", x.push(3, 1), KIND);
        due("none", x.push(4, 1), NONE);
        due("-1", x.push(-1, 1), NONE);
    }

    private static void pull() {
        Counted x = of(DOUBLING, GAPPED, PLAIN, SKEW);
        due("empty", x.pull(0), EMPTY);
        due("empty gapped", x.pull(1), EMPTY);
        x.rise(0, 1, 9);
        x.rise(1, 1, 9);
        for (int left = 8; left >= 0; left--) {
            due("pull", x.pull(0), left);
            act("doubling " + left, x, 0, 3, 1, 0);
            due("number", x.foundKey(), left + 1);
            due("places stay", x.about(0, 3), 16);
        }
        for (int left = 8; left >= 0; left--) {
            due("pull", x.pull(1), left);
            boolean copies = left == 4 || left == 2;
            int places = left > 4 ? 16 : left > 2 ? 8 : 4;
            act("gapped " + left, x, 1, 3, copies ? 1 + left : 1, places / 2 - left);
            due("places", x.about(1, 3), places);
        }
        due("empty again", x.pull(1), EMPTY);
        due("value is 0", x.foundValue(), 0);
        due("tree", x.pull(2), KIND);
        due("heap", x.pull(3), KIND);
        due("none", x.pull(4), NONE);
    }

    private static void at() {
        Counted x = of(DOUBLING, PLAIN, UPWARD);
        x.rise(0, -2, 6);
        x.rise(1, 5, 3);
        for (int i = 0; i < 6; i++) {
            due("at " + i, x.at(0, i), i - 2);
        }
        due("behind the last", x.at(0, 6), 0);
        due("-1", x.at(0, -1), 0);
        due("greatest", x.at(0, Integer.MAX_VALUE), 0);
        due("tree", x.at(1, 0), 0);
        due("heap", x.at(2, 0), 0);
        due("none", x.at(3, 0), 0);
        due("-1", x.at(-1, 0), 0);
        x.pull(0);
        due("what went", x.at(0, 5), 0);
    }

    private static void found() {
        Counted x = of(PLAIN, SKEW, GAPPED);
        x.insert(0, 4, 44);
        x.insert(1, 5, 55);
        x.push(2, 66);
        due("nothing is found yet", x.foundKey() + x.foundValue(), 0);
        x.find(0, 4);
        due("find", x.foundKey() * 100 + x.foundValue(), 444);
        x.pop(1);
        due("pop", x.foundKey() * 100 + x.foundValue(), 555);
        x.pull(2);
        due("pull", x.foundKey() * 100 + x.foundValue(), 6600);
        x.below(0, 5);
        due("below", x.foundKey() * 100 + x.foundValue(), 444);
        x.pull(2);
        x.pop(1);
        x.find(0, 7);
        x.above(0, 4);
        due("nothing new", x.foundKey() * 100 + x.foundValue(), 444);
        x.insert(0, 4, 45);
        x.drop(0, 4);
        due("drop", x.foundKey() * 100 + x.foundValue(), 444);
        x.drop(0, 4);
        due("drop", x.foundKey() * 100 + x.foundValue(), 445);
    }

    private static void about() {
        Counted x = of(PLAIN, TURNING, SKEW, UPWARD, DOUBLING, GAPPED);
        for (int s = 0; s < 6; s++) {
            due("no such what", x.about(s, -1), NONE);
            due("no such what", x.about(s, 8), NONE);
            due("kind", x.about(s, 0), s);
            due("places", x.about(s, 3), s < 4 ? 0 : 4);
            due("away", x.about(s, 7), 0);
            x.rise(s, 1, 7);
            due("nodes", x.about(s, 1), 7);
            due("entries", x.about(s, 2), 7);
            due("places", x.about(s, 3), s < 4 ? 0 : 8);
        }
        due("plain away", x.about(0, 7), 6);
        due("turning away", x.about(1, 7), 6);
        due("skew away", x.about(2, 7), 2);
        due("upward away", x.about(3, 7), 6);
        due("row away", x.about(4, 7), 0);
        due("potential of a chain of 7", x.about(1, 4), 3 * (0 + 1 + 1 + 2 + 2 + 2 + 2));
        due("no such structure", x.about(6, 0), NONE);
        due("no such structure", x.about(-1, 0), NONE);
        x = of(PLAIN);
        x.rise(0, 1, 500);
        due("a purse may be below 0", x.about(0, 5), purseOfChain(500));
    }

    private static int purseOfChain(int n) {
        int purse = 0;
        for (int i = 0; i < n; i++) {
            int lg = 31 - Integer.numberOfLeadingZeros(i + 1);
            purse += 24 * lg + 24 - i;
        }
        return purse;
    }

    private static void price() {
        Counted x = of(PLAIN, TURNING, SKEW, UPWARD, DOUBLING, GAPPED, TURNING, SKEW);
        int[] onEmpty = {24, 24, KIND, KIND, KIND, KIND};
        int[] toBring = {KIND, KIND, 4, 4, 3, 3};
        int[] toTake = {KIND, KIND, EMPTY, EMPTY, EMPTY, EMPTY};
        for (int s = 0; s < 6; s++) {
            due("on a tree " + s, x.price(0, s, -5), onEmpty[s]);
            due("to bring " + s, x.price(2, s, -5), toBring[s]);
            due("to take " + s, x.price(3, s, -5), toTake[s]);
            due("join " + s, x.price(1, s, 6), s == TURNING ? 24 : KIND);
            due("meld " + s, x.price(4, s, 7), s == SKEW ? 4 : KIND);
            due("how -1", x.price(-1, s, 0), NONE);
            due("how 5", x.price(5, s, 0), NONE);
            due("join without second", x.price(1, s, 8), NONE);
            due("meld without second", x.price(4, s, -1), NONE);
            x.rise(s, 1, 7);
        }
        due("7 nodes", x.price(0, 0, 0), 24 * 3 + 24);
        x.drop(0, 1);
        due("6 nodes", x.price(0, 0, 0), 24 * 2 + 24);
        due("insert into 7", x.price(2, 2, 0), 2 * (2 + 0 + 2));
        due("pop of 3 and 3", x.price(3, 2, 0), 2 * (1 + 1 + 2));
        due("pop of 6 and none", x.price(3, 3, 0), 2 * (2 + 0 + 2));
        due("pull", x.price(3, 4, 0), 3);
        due("join with itself", x.price(1, 1, 1), KIND);
        due("meld with itself", x.price(4, 2, 2), KIND);
        due("meld of two kinds", x.price(4, 2, 3), KIND);
        x.rise(6, 1, 8);
        due("join counts both, in any order of keys", x.price(1, 1, 6), 24 * 4 + 24);
        x.rise(7, 1, 4);
        due("meld counts both", x.price(4, 2, 7), 2 * (2 + 2 + 2));
        due("no such structure", x.price(0, 8, 0), NONE);
        due("no such structure", x.price(0, -1, 0), NONE);
        due("prices are no acts", x.count(2), 42 + 1 + 8 + 4);
    }

    private static void node() {
        Counted x = of(PLAIN, SKEW, GAPPED);
        insertAll(x, 0, 50, 20, 80, 10, 30, 90);
        x.insert(0, 30, 5);
        keys("order", x, 0, 50, 20, 10, 30, 80, 90);
        int[][] nodes = {{0, 6, 3, 1, 500}, {1, 3, 3, 1, 200}, {2, 1, 0, 1, 100},
            {2, 1, 0, 2, 300}, {1, 2, 2, 1, 800}, {2, 1, 0, 1, 900}};
        for (int i = 0; i < nodes.length; i++) {
            for (int what = 0; what < 5; what++) {
                due("node " + i + ", " + what, x.node(0, i, what), nodes[i][what]);
            }
        }
        x.insert(1, 4, -1);
        x.insert(1, 5, 7);
        due("heap values", x.node(1, 1, 3), 1);
        due("value -1", x.node(1, 0, 4), -1);
        due("left child", x.node(1, 0, 2), 1);
        due("key in a heap", x.nodeKey(1, 1), 5);
        due("no such node", x.node(0, 6, 0), NONE);
        due("node -1", x.node(0, -1, 0), NONE);
        due("greatest node", x.node(0, Integer.MAX_VALUE, 0), NONE);
        due("what -1", x.node(0, 0, -1), NONE);
        due("what 5", x.node(0, 0, 5), NONE);
        due("row", x.node(2, 0, 0), KIND);
        due("row, no such node", x.node(2, -1, 0), KIND);
        due("row, what 5", x.node(2, 0, 5), NONE);
        due("no such structure", x.node(3, 0, 0), NONE);
        due("nodeKey: no such node", x.nodeKey(0, 6), 0);
        due("nodeKey: -1", x.nodeKey(0, -1), 0);
        due("nodeKey: row", x.nodeKey(2, 0), 0);
        due("nodeKey: no such structure", x.nodeKey(3, 0), 0);
        due("nodeKey: least structure", x.nodeKey(Integer.MIN_VALUE, 0), 0);
    }

    private static void ledger() {
        Counted x = of(PLAIN, GAPPED);
        x.rise(0, 1, 3);
        x.push(1, 5);
        int[][] rows = {{0, 24, 0, 0}, {0, 48, 1, 0}, {0, 48, 2, 0}, {1, 3, 1, 1}};
        for (int i = 0; i < rows.length; i++) {
            for (int what = 0; what < 4; what++) {
                due("row " + i + ", " + what, x.ledger(i, what), rows[i][what]);
            }
            due("what -1", x.ledger(i, -1), NONE);
            due("what 4", x.ledger(i, 4), NONE);
        }
        due("row -1", x.ledger(-1, 0), NONE);
        due("row 4", x.ledger(4, 0), NONE);
        due("row 20000", x.ledger(20000, 0), NONE);
        x.about(0, 4);
        x.price(0, 0, 0);
        x.node(0, 0, 0);
        due("looking is no act", x.count(2), 4);
    }

    private static void spread() {
        Counted x = of(DOUBLING);
        // Steps: 1 1 1 1 5 1 1 1 9 1 1 1
        x.rise(0, 1, 12);
        due("0", x.spread(0), NONE);
        due("-1", x.spread(-1), NONE);
        due("least", x.spread(Integer.MIN_VALUE), NONE);
        due("1", x.spread(1), 8);
        due("2: the least of several", x.spread(2), 7);
        due("4", x.spread(4), 5);
        due("5", x.spread(5), 4);
        due("9", x.spread(9), 0);
        due("12", x.spread(12), 0);
        due("13", x.spread(13), NONE);
        due("greatest", x.spread(Integer.MAX_VALUE), NONE);
    }

    private static void count() {
        Counted x = of(PLAIN, TURNING, SKEW, DOUBLING);
        for (int s = 0; s < 4; s++) {
            x.rise(s, 1, 5);
        }
        x.insert(0, 1, 1);
        due("structures", x.count(0), 4);
        due("entries", x.count(1), 21);
        due("rows", x.count(2), 21);
        x.drop(0, 1);
        x.drop(0, 99);
        x.pop(2);
        x.pull(3);
        x.split(1, 3);
        due("structures", x.count(0), 5);
        due("entries", x.count(1), 18);
        due("rows", x.count(2), 26);
        x.join(1, 4);
        due("entries", x.count(1), 18);
        due("-1", x.count(-1), NONE);
        due("3", x.count(3), NONE);
    }
}
