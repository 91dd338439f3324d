/** Promises 1 to 24 in their order: a test for each sentence that names an edge of a call. */
public final class CallEdgesTest extends Bench {
    private static final int[] FAR = {-1, -2, Integer.MIN_VALUE, Integer.MAX_VALUE};

    public static void main(String[] args) {
        newObject();
        make();
        makeWhenFull();
        insertAnswers();
        riseOutOfBounds();
        riseWithinBounds();
        riseRoundTheEnd();
        riseEndsAheadOfFull();
        findAnswers();
        dropAnswers();
        belowAndAboveAnswer();
        splitAnswers();
        splitWhenFull();
        joinAnswers();
        joinOrder();
        popAnswers();
        meldAnswers();
        pushAndPullAnswer();
        at();
        aboutEach();
        aboutFarthest();
        aboutNone();
        aboutMayBeMinusOne();
        priceEach();
        priceOfTwo();
        priceNone();
        nodeEach();
        nodeNone();
        nodeKey();
        ledger();
        spread();
        spreadOfSeveral();
        count();
        CHECKS.end();
    }

    private static void newObject() {
        sentence("Promise 1: Nothing is made.");
        Counted x = new Counted();
        for (int what = 0; what < 3; what++) {
            due("count " + what, x.count(what), 0);
        }
        for (int s = 0; s < 40; s++) {
            due("about " + s, x.about(s, 0), NONE);
        }
        due("ledger", x.ledger(0, 0), NONE);
        due("spread", x.spread(1), NONE);
        found("new", x, 0, 0);
        Counted other = of(GAPPED);
        other.push(0, 5);
        due("each object has its own", x.count(0), 0);
        due("each object has its own", x.make(PLAIN), 0);
        due("each object has its own", other.about(0, 0), GAPPED);
    }

    private static void make() {
        sentence("Promise 2: A new structure of a KIND, empty: its number. NONE: no such kind.");
        Counted x = new Counted();
        for (int kind : FAR) {
            due("make " + kind, x.make(kind), NONE);
        }
        due("make 6", x.make(6), NONE);
        due("nothing is made", x.count(0), 0);
        for (int kind = 0; kind < 6; kind++) {
            due("make " + kind, x.make(kind), kind);
            due("its kind", x.about(kind, 0), kind);
            due("empty", x.about(kind, 1), 0);
            due("empty", x.about(kind, 2), 0);
        }
        due("two of a kind", x.make(5), 6);
        due("empty as well", x.push(6, 1), 1);
        due("not the other", x.about(5, 1), 0);
    }

    private static void makeWhenFull() {
        sentence("Promise 2: FULL.");
        Counted x = new Counted();
        for (int i = 0; i < 39; i++) {
            x.make(i % 6);
        }
        due("the 40th", x.make(5), 39);
        for (int kind = 0; kind < 6; kind++) {
            due("the 41st", x.make(kind), FULL);
        }
        due("40", x.count(0), 40);
        x = of(TURNING);
        for (int i = 1; i < 40; i++) {
            due("split", x.split(0, 0), i);
        }
        due("filled by split", x.make(PLAIN), FULL);
        x = of(DOUBLING);
        fillLedger(x, 0, 0);
        due("it is no act: a full LEDGER has room for it", x.make(TURNING), 1);
    }

    private static void insertAnswers() {
        sentence("Promise 3: of a tree how many values its key has then; of a heap how many nodes "
            + "it has");
        for (int kind = PLAIN; kind <= UPWARD; kind++) {
            Counted x = of(kind);
            boolean tree = kind <= TURNING;
            due("first", x.insert(0, 5, 1), 1);
            due("the same key", x.insert(0, 5, 1), 2);
            due("another key", x.insert(0, 6, 1), tree ? 1 : 3);
            due("the same key", x.insert(0, 5, -1), tree ? 3 : 4);
            due("the other key", x.insert(0, 6, 0), tree ? 2 : 5);
            due("the least key", x.insert(0, LEAST, Integer.MIN_VALUE), tree ? 1 : 6);
            due("the greatest key", x.insert(0, GREATEST, Integer.MAX_VALUE), tree ? 1 : 7);
            due("entries", x.about(0, 2), 7);
        }
        sentence("Promise 3: FULL (entries, ledger)");
        Counted x = of(GAPPED, PLAIN, TURNING, SKEW, UPWARD);
        fillLedger(x, 0, 4);
        for (int s = 1; s < 5; s++) {
            due("the last four", x.insert(s, 5, 5), 1);
        }
        for (int s = 1; s < 5; s++) {
            due("no more", x.insert(s, 5, 5), FULL);
        }
    }

    private static void riseOutOfBounds() {
        sentence("Promise 4: n (1 .. 2000)");
        for (int kind = 0; kind < 6; kind++) {
            Counted x = of(kind);
            for (int n : FAR) {
                due("rise " + n, x.rise(0, 7, n), NONE);
            }
            due("rise 0", x.rise(0, 7, 0), NONE);
            due("rise 2001", x.rise(0, 7, 2001), NONE);
            due("no act", x.count(2), 0);
            due("no entry", x.count(1), 0);
            due("rise 1", x.rise(0, 7, 1), 1);
            due("rise 2000", x.rise(0, 7, 2000), 2000);
            due("acts", x.count(2), 2001);
            due("entries", x.about(0, 2), 2001);
        }
    }

    private static void riseWithinBounds() {
        sentence("Promise 4: insert of the keys key, key + 1, .. (as longs) with the values 0, 1, "
            + "..; in a row push of these");
        Counted x = of(PLAIN, TURNING, SKEW, UPWARD, DOUBLING, GAPPED);
        for (int s = 0; s < 6; s++) {
            due("rise", x.rise(s, -2, 5), 5);
        }
        for (int i = 0; i < 5; i++) {
            for (int s = 0; s < 2; s++) {
                due("key " + i, x.find(s, i - 2), 1);
                found("key " + i, x, i - 2, i);
            }
            x.pop(2);
            found("least " + i, x, i - 2, i);
            x.pop(3);
            found("greatest " + i, x, 2 - i, 4 - i);
            due("number " + i, x.at(4, i), i - 2);
            due("number " + i, x.at(5, i), i - 2);
        }
        due("values behind others", x.rise(0, 0, 2), 2);
        due("values behind others", x.find(0, 1), 2);
        found("the older first", x, 1, 3);
        sentence("Promise 4: As n acts one behind the other");
        Counted one = of(TURNING);
        Counted many = of(TURNING);
        due("at once", one.rise(0, 3, 20), 20);
        for (int i = 0; i < 20; i++) {
            many.insert(0, 3 + i, i);
        }
        for (int i = 0; i < 20; i++) {
            for (int what = 0; what < 4; what++) {
                due("row " + i, one.ledger(i, what), many.ledger(i, what));
            }
        }
        for (int what = 0; what < 8; what++) {
            due("about " + what, one.about(0, what), many.about(0, what));
        }
    }

    private static void riseRoundTheEnd() {
        sentence("Promise 4: key, key + 1, .. (as longs): round the end");
        Counted x = of(PLAIN, TURNING, SKEW, UPWARD, DOUBLING, GAPPED);
        long[] keys = {GREATEST - 1, GREATEST, LEAST, LEAST + 1};
        for (int s = 0; s < 6; s++) {
            due("rise", x.rise(s, GREATEST - 1, 4), 4);
        }
        int[] rising = {2, 3, 0, 1};
        for (int i = 0; i < 4; i++) {
            due("number", x.at(4, i), keys[i]);
            due("number", x.at(5, i), keys[i]);
            due("plain", x.find(0, keys[i]), 1);
            found("plain", x, keys[i], i);
            due("turning", x.find(1, keys[i]), 1);
            found("turning", x, keys[i], i);
            x.pop(2);
            found("skew", x, keys[rising[i]], rising[i]);
            x.pop(3);
            found("upward", x, keys[rising[3 - i]], rising[3 - i]);
        }
        due("the least hangs left of all", x.node(0, 0, 2), 3);
        due("past an int", x.rise(0, Integer.MAX_VALUE, 2), 2);
        due("is no int", x.find(0, Integer.MAX_VALUE + 1L), 1);
    }

    private static void riseEndsAheadOfFull() {
        sentence("Promise 4: It ends ahead of the first that would be FULL: how many were done.");
        for (int kind = 0; kind < 6; kind++) {
            Counted x = of(DOUBLING, kind);
            fillLedger(x, 0, 3);
            due("two of two", x.rise(1, 7, 2), 2);
            due("one of two", x.rise(1, 9, 2), 1);
            due("none", x.rise(1, 7, 2), 0);
            due("none of 2000", x.rise(1, 7, 2000), 0);
            due("three are there", x.about(1, 1), 3);
            due("rows", x.count(2), MOST);
            due("n is asked still", x.rise(1, 7, 2001), NONE);
            due("n is asked still", x.rise(1, 7, 0), NONE);
        }
    }

    private static void findAnswers() {
        sentence("Promise 5: How many values a key has in a tree; 0: it is not there.");
        for (int kind = PLAIN; kind <= TURNING; kind++) {
            Counted x = of(kind);
            due("in none", x.find(0, 5), 0);
            for (int i = 1; i <= 4; i++) {
                x.insert(0, 5, i);
                due("values", x.find(0, 5), i);
                due("beside it", x.find(0, 4), 0);
                due("beside it", x.find(0, 6), 0);
            }
            for (int i = 3; i >= 0; i--) {
                x.drop(0, 5);
                due("values", x.find(0, 5), i);
            }
        }
    }

    private static void dropAnswers() {
        sentence("Promise 6: 1: an entry of the key went; 0: there was none.");
        for (int kind = PLAIN; kind <= TURNING; kind++) {
            Counted x = of(kind);
            due("of none", x.drop(0, 5), 0);
            x.insert(0, 5, 1);
            x.insert(0, 5, 2);
            x.insert(0, 9, 3);
            due("another", x.drop(0, 6), 0);
            due("entries", x.count(1), 3);
            due("first", x.drop(0, 5), 1);
            due("entries", x.count(1), 2);
            due("second", x.drop(0, 5), 1);
            due("entries", x.count(1), 1);
            due("no third", x.drop(0, 5), 0);
            due("entries", x.count(1), 1);
            due("the last node", x.drop(0, 9), 1);
            due("entries", x.about(0, 2), 0);
            due("nodes", x.about(0, 1), 0);
        }
    }

    private static void belowAndAboveAnswer() {
        sentence("Promises 7 and 8: 1: one is FOUND, 0: none.");
        for (int kind = PLAIN; kind <= TURNING; kind++) {
            Counted x = of(kind);
            due("below in none", x.below(0, 0), 0);
            due("above in none", x.above(0, 0), 0);
            x.insert(0, 5, 50);
            x.insert(0, 5, 51);
            due("below it", x.below(0, 5), 0);
            due("above it", x.above(0, 5), 0);
            found("none", x, 0, 0);
            due("below the next", x.below(0, 6), 1);
            found("below the next", x, 5, 50);
            x.insert(0, 7, 70);
            due("above the one ahead", x.above(0, 6), 1);
            found("above the one ahead", x, 7, 70);
            due("above itself", x.above(0, 7), 0);
            found("as before", x, 7, 70);
        }
    }

    private static void splitAnswers() {
        sentence("Promise 9: The number of the new structure.");
        Counted x = of(PLAIN, TURNING, GAPPED);
        x.rise(1, 1, 4);
        due("split", x.split(1, 3), 3);
        due("of the new one", x.split(3, 4), 4);
        due("nodes", x.about(1, 1), 2);
        due("nodes", x.about(3, 1), 1);
        due("nodes", x.about(4, 1), 1);
        due("structures", x.count(0), 5);
        due("entries", x.count(1), 4);
        due("the new one's are its own", x.insert(3, 1, 1), 1);
        due("not the first one's", x.about(1, 2), 2);
    }

    private static void splitWhenFull() {
        sentence("Promise 9: FULL (structures, ledger)");
        Counted x = of(TURNING);
        x.rise(0, 1, 3);
        for (int i = 1; i < 39; i++) {
            x.make(PLAIN);
        }
        due("the 40th", x.split(0, 2), 39);
        due("no 41st", x.split(0, 1), FULL);
        due("nodes", x.about(0, 1), 1);
        due("rows", x.count(2), 4);
        x = of(TURNING, GAPPED);
        x.rise(0, 1, 3);
        fillLedger(x, 1, 1);
        due("the last row", x.split(0, 2), 2);
        due("no row", x.split(0, 1), FULL);
        due("structures", x.count(0), 3);
    }

    private static void joinAnswers() {
        sentence("Promise 10: How many nodes s has then.");
        Counted x = of(TURNING, TURNING);
        due("none and none", x.join(0, 1), 0);
        x.insert(0, 5, 1);
        x.insert(0, 5, 2);
        due("one, of two values, and none", x.join(0, 1), 1);
        due("none and one", x.join(1, 0), 1);
        x.insert(0, 4, 1);
        due("one and one", x.join(0, 1), 2);
        due("entries", x.about(0, 2), 3);
        due("in all", x.count(1), 3);
    }

    private static void joinOrder() {
        sentence("Promise 10: ORDER: both have nodes, and a key of s is not less than all of t");
        Counted x = of(TURNING, TURNING);
        insertAll(x, 0, 10, 30, 20);
        due("an empty second", x.join(0, 1), 3);
        insertAll(x, 1, 30, 40, 50);
        due("the greatest is equal to the least", x.join(0, 1), ORDER);
        due("behind it", x.join(1, 0), ORDER);
        x.drop(1, 30);
        insertAll(x, 1, 29);
        due("the greatest is greater than the least", x.join(0, 1), ORDER);
        x.drop(1, 29);
        x.insert(1, 10, 1);
        due("all but the least are greater", x.join(0, 1), ORDER);
        x.drop(1, 10);
        x.insert(1, 31, 1);
        due("all are less", x.join(0, 1), 6);
        due("an empty second again", x.join(0, 1), 6);
        due("an empty first", x.join(1, 0), 6);
        x = of(TURNING, TURNING);
        x.insert(0, LEAST, 0);
        x.insert(1, GREATEST, 0);
        due("the ends of longs", x.join(1, 0), ORDER);
        due("the ends of longs", x.join(0, 1), 2);
        sentence("Promise 10: FULL (ledger)");
        x = of(GAPPED, TURNING, TURNING);
        fillLedger(x, 0, 1);
        due("the last row", x.join(1, 2), 0);
        due("no row", x.join(1, 2), FULL);
    }

    private static void popAnswers() {
        sentence("Promise 11: How many nodes are left in the heap.");
        for (int kind = SKEW; kind <= UPWARD; kind++) {
            Counted x = of(kind);
            due("of none", x.pop(0), EMPTY);
            x.rise(0, 1, 9);
            for (int left = 8; left >= 0; left--) {
                due("pop", x.pop(0), left);
                due("nodes", x.about(0, 1), left);
                due("entries", x.count(1), left);
            }
            due("of none again", x.pop(0), EMPTY);
            due("it may be filled again", x.insert(0, 1, 1), 1);
            due("and emptied", x.pop(0), 0);
        }
        sentence("Promise 11: FULL (ledger)");
        Counted x = of(GAPPED, SKEW);
        x.rise(1, 1, 2);
        fillLedger(x, 0, 1);
        due("the last row", x.pop(1), 1);
        due("no row", x.pop(1), FULL);
    }

    private static void meldAnswers() {
        sentence("Promise 12: How many nodes s has then.");
        for (int kind = SKEW; kind <= UPWARD; kind++) {
            Counted x = of(kind, kind);
            due("none and none", x.meld(0, 1), 0);
            x.rise(1, 1, 3);
            due("none and three", x.meld(0, 1), 3);
            due("three and none", x.meld(0, 1), 3);
            x.rise(1, 1, 2);
            due("three and two", x.meld(0, 1), 5);
            due("in all", x.count(1), 5);
        }
        sentence("Promise 12: FULL (ledger)");
        Counted x = of(GAPPED, SKEW, SKEW);
        fillLedger(x, 0, 1);
        due("the last row", x.meld(1, 2), 0);
        due("no row", x.meld(1, 2), FULL);
    }

    private static void pushAndPullAnswer() {
        sentence("Promises 13 and 14: How many numbers the row has then; how many are left.");
        for (int kind = DOUBLING; kind <= GAPPED; kind++) {
            Counted x = of(kind);
            due("of none", x.pull(0), EMPTY);
            for (int i = 1; i <= 9; i++) {
                due("push", x.push(0, LEAST + i), i);
                due("in all", x.count(1), i);
            }
            for (int i = 8; i >= 0; i--) {
                due("pull", x.pull(0), i);
                found("pull", x, LEAST + i + 1, 0);
                due("in all", x.count(1), i);
            }
            due("of none again", x.pull(0), EMPTY);
            due("it may be filled again", x.push(0, 7), 1);
        }
        sentence("Promises 13 and 14: FULL (entries, ledger; ledger)");
        Counted x = of(DOUBLING, GAPPED);
        fillLedger(x, 0, 2);
        due("the last but one", x.push(1, 5), 1);
        due("the last row", x.pull(1), 0);
        due("no row to push", x.push(0, 5), FULL);
        due("no row to pull", x.pull(0), FULL);
        due("the numbers stay", x.about(0, 1), MOST - 2);
    }

    private static void at() {
        sentence("Promise 15: Number i (from 0 on) of a row; 0, if there is none such (no row, "
            + "too).");
        Counted x = of(PLAIN, TURNING, SKEW, UPWARD, DOUBLING, GAPPED);
        for (int s = 0; s < 6; s++) {
            due("of none", x.at(s, 0), 0);
            x.rise(s, 70, 5);
            for (int i = 0; i < 5; i++) {
                due("at " + i, x.at(s, i), s < 4 ? 0 : 70 + i);
            }
            due("behind the last, in a place", x.at(s, 5), 0);
            due("behind all places", x.at(s, 8), 0);
            for (int i : FAR) {
                due("at " + i, x.at(s, i), 0);
            }
        }
        due("no such structure", x.at(6, 0), 0);
        due("no such structure", x.at(40, 0), 0);
        for (int s : FAR) {
            due("structure " + s, x.at(s, 0), 0);
        }
        for (int s = 4; s < 6; s++) {
            x.pull(s);
            due("what was pulled", x.at(s, 4), 0);
            x.push(s, LEAST);
            due("what was pushed", x.at(s, 4), LEAST);
        }
    }

    private static void aboutEach() {
        sentence("Promise 18: 0 its KIND, 1 nodes, or numbers of a row, 2 entries (values of a "
            + "tree in all), 3 places of a row (0 of others)");
        Counted x = of(PLAIN, TURNING, SKEW, UPWARD, DOUBLING, GAPPED);
        for (int s = 0; s < 6; s++) {
            due("kind", x.about(s, 0), s);
            due("nodes", x.about(s, 1), 0);
            due("entries", x.about(s, 2), 0);
            due("places", x.about(s, 3), s < 4 ? 0 : 4);
            x.rise(s, 1, 5);
            x.rise(s, 1, 2);
            due("kind", x.about(s, 0), s);
            due("nodes", x.about(s, 1), s < 2 ? 5 : 7);
            due("entries", x.about(s, 2), 7);
            due("places", x.about(s, 3), s < 4 ? 0 : 8);
        }
        sentence("Promise 18: 6 STEPS of all acts that took steps in it");
        for (int s = 0; s < 6; s++) {
            int sum = 0;
            for (int row = 7 * s; row < 7 * s + 7; row++) {
                sum += x.ledger(row, 2);
            }
            due("steps of " + s, x.about(s, 6), sum);
        }
        due("steps in a PLAIN tree", x.about(0, 6), 0 + 1 + 2 + 3 + 4 + 0 + 1);
        due("steps in a row", x.about(4, 6), 7 + 4);
    }

    private static void aboutFarthest() {
        sentence("Promise 18: 7 how many goings from the root the farthest node is away (0 of a "
            + "row, and without nodes)");
        Counted x = of(PLAIN, TURNING, SKEW, UPWARD, DOUBLING, GAPPED);
        int[] away = {2, 2, 1, 2, 0, 0};
        for (int s = 0; s < 6; s++) {
            due("without nodes", x.about(s, 7), 0);
            x.rise(s, 1, 1);
            due("of one", x.about(s, 7), 0);
            x.rise(s, 2, 2);
            due("of three", x.about(s, 7), away[s]);
        }
        x = treeOf(PLAIN, 50, 20, 80, 90, 70, 75);
        due("right, left, right", x.about(0, 7), 3);
        insertAll(x, 0, 10, 15, 12, 11);
        due("left, left, right, left, left", x.about(0, 7), 5);
        x.drop(0, 11);
        x.drop(0, 12);
        due("a farthest one went", x.about(0, 7), 3);
    }

    private static void aboutNone() {
        sentence("Promise 18: NONE");
        Counted x = of(PLAIN, TURNING, SKEW, UPWARD, DOUBLING, GAPPED);
        for (int s = 0; s < 6; s++) {
            due("what 8", x.about(s, 8), NONE);
            for (int what : FAR) {
                due("what " + what, x.about(s, what), NONE);
            }
        }
        for (int what = 0; what < 8; what++) {
            due("no such structure", x.about(6, what), NONE);
            due("no such structure", x.about(40, what), NONE);
            for (int s : FAR) {
                due("structure " + s, x.about(s, what), NONE);
            }
        }
    }

    private static void aboutMayBeMinusOne() {
        sentence("Promise 18: (an answer may be -1, too)");
        Counted x = of(PLAIN);
        x.rise(0, 0, 367);
        x.find(0, 280);
        due("a purse", x.about(0, 5), -1);
        sentence("Promise 20: (of what 4 it may be -1, too)");
        x = of(PLAIN, UPWARD);
        x.insert(0, 5, -1);
        x.insert(1, 5, -1);
        due("a value", x.node(0, 0, 4), -1);
        due("a value", x.node(1, 0, 4), -1);
        due("it is there", x.node(0, 0, 3), 1);
    }

    private static void priceEach() {
        sentence("Promise 19: how 0 one on the tree s (t does not count), 2 insert into the heap "
            + "s, or push, 3 pop, or pull; KIND: as for the act; EMPTY (3)");
        int[] others = {-1, 0, 5, 6, 40, Integer.MIN_VALUE, Integer.MAX_VALUE};
        int[][] due = {{24, 24, KIND, KIND, KIND, KIND}, {KIND, KIND, 4, 4, 3, 3},
            {KIND, KIND, EMPTY, EMPTY, EMPTY, EMPTY}};
        int[][] dueOfOne = {{48, 48, KIND, KIND, KIND, KIND}, {KIND, KIND, 4, 4, 3, 3},
            {KIND, KIND, 4, 4, 3, 3}};
        int[] hows = {0, 2, 3};
        for (int s = 0; s < 6; s++) {
            Counted x = of(PLAIN, TURNING, SKEW, UPWARD, DOUBLING, GAPPED);
            for (int t : others) {
                for (int i = 0; i < 3; i++) {
                    due("how " + hows[i] + " of " + s, x.price(hows[i], s, t), due[i][s]);
                }
            }
            x.rise(s, 1, 1);
            for (int t : others) {
                for (int i = 0; i < 3; i++) {
                    due("how " + hows[i] + " of " + s, x.price(hows[i], s, t), dueOfOne[i][s]);
                }
            }
        }
    }

    private static void priceOfTwo() {
        sentence("Promise 19: 1 join of s and t, 4 meld; KIND: as for the act");
        Counted x = of(PLAIN, TURNING, SKEW, UPWARD, DOUBLING, GAPPED, PLAIN, TURNING, SKEW, UPWARD);
        for (int s = 0; s < 10; s++) {
            for (int t = 0; t < 10; t++) {
                boolean turning = x.about(s, 0) == TURNING && x.about(t, 0) == TURNING && s != t;
                due("join of " + s + " and " + t, x.price(1, s, t), turning ? 24 : KIND);
            }
        }
        x = of(PLAIN, TURNING, SKEW, UPWARD, DOUBLING, GAPPED, PLAIN, TURNING, SKEW, UPWARD);
        for (int s = 0; s < 10; s++) {
            for (int t = 0; t < 10; t++) {
                boolean skew = s == 2 && t == 8 || s == 8 && t == 2;
                boolean upward = s == 3 && t == 9 || s == 9 && t == 3;
                due("meld of " + s + " and " + t, x.price(4, s, t), skew || upward ? 4 : KIND);
            }
        }
        x.rise(1, 5, 3);
        x.rise(7, 5, 4);
        due("join's ORDER is not asked", x.price(1, 1, 7), 24 * 3 + 24);
        due("join's ORDER is not asked", x.price(1, 7, 1), 24 * 3 + 24);
        due("no act", x.count(2), 7);
    }

    private static void priceNone() {
        sentence("Promise 19: NONE: no such structure, or how.");
        Counted x = of(PLAIN, TURNING, SKEW, UPWARD, DOUBLING, GAPPED);
        for (int s = 0; s < 6; s++) {
            due("how 5", x.price(5, s, 0), NONE);
            for (int far : FAR) {
                due("how " + far, x.price(far, s, 0), NONE);
                due("join with " + far, x.price(1, s, far), NONE);
                due("meld with " + far, x.price(4, s, far), NONE);
            }
            due("join with none", x.price(1, s, 6), NONE);
            due("meld with none", x.price(4, s, 40), NONE);
        }
        for (int how = 0; how < 5; how++) {
            for (int s : FAR) {
                due("how " + how + " of " + s, x.price(how, s, 1), NONE);
            }
            due("how " + how + " of none", x.price(how, 6, 2), NONE);
            due("how " + how + " of none", x.price(how, 39, 2), NONE);
            due("how " + how + " of none", x.price(how, 40, 2), NONE);
        }
        sentence("Promise 19: prices are told of a full LEDGER, too");
        x = of(GAPPED, TURNING, SKEW);
        fillLedger(x, 0, 0);
        due("tree", x.price(0, 1, 0), 24);
        due("heap", x.price(2, 2, 0), 4);
        due("push", x.price(2, 0, 0), 3);
        due("pull", x.price(3, 0, 0), 3);
    }

    private static void nodeEach() {
        sentence("Promise 20: the root first, then all that hangs left, then all that hangs "
            + "right, likewise");
        Counted x = treeOf(PLAIN, 50, 20, 80, 10, 30, 35, 90, 85);
        x.insert(0, 35, 5);
        long[][] nodes = {{50, 0, 8, 3, 1, 500}, {20, 1, 4, 3, 1, 200}, {10, 2, 1, 0, 1, 100},
            {30, 2, 2, 2, 1, 300}, {35, 3, 1, 0, 2, 350}, {80, 1, 3, 2, 1, 800},
            {90, 2, 2, 1, 1, 900}, {85, 3, 1, 0, 1, 850}};
        for (int i = 0; i < nodes.length; i++) {
            due("key of " + i, x.nodeKey(0, i), nodes[i][0]);
            for (int what = 0; what < 5; what++) {
                due("node " + i + ", " + what, x.node(0, i, what), nodes[i][what + 1]);
            }
        }
        x = of(UPWARD);
        insertAll(x, 0, 3, 2, 1, 0);
        long[][] ofHeap = {{3, 0, 4, 3, 1, 30}, {2, 1, 2, 1, 1, 20}, {0, 2, 1, 0, 1, 0},
            {1, 1, 1, 0, 1, 10}};
        for (int i = 0; i < ofHeap.length; i++) {
            due("key of " + i, x.nodeKey(0, i), ofHeap[i][0]);
            for (int what = 0; what < 5; what++) {
                due("node " + i + ", " + what, x.node(0, i, what), ofHeap[i][what + 1]);
            }
        }
    }

    private static void nodeNone() {
        sentence("Promise 20: NONE: no such structure or what; KIND: it is a row; NONE: no such "
            + "node (in this order)");
        Counted x = of(PLAIN, TURNING, SKEW, UPWARD, DOUBLING, GAPPED);
        for (int s = 0; s < 6; s++) {
            due("of none", x.node(s, 0, 0), s < 4 ? NONE : KIND);
            x.rise(s, 1, 3);
            due("the last", x.node(s, 2, 3), s < 4 ? 1 : KIND);
            due("behind the last", x.node(s, 3, 0), s < 4 ? NONE : KIND);
            due("what 5", x.node(s, 0, 5), NONE);
            due("what 5, no such node", x.node(s, 3, 5), NONE);
            for (int far : FAR) {
                due("node " + far, x.node(s, far, 0), s < 4 ? NONE : KIND);
                due("what " + far, x.node(s, 0, far), NONE);
            }
        }
        for (int what = 0; what < 5; what++) {
            for (int s : FAR) {
                due("structure " + s, x.node(s, 0, what), NONE);
            }
            due("structure 6", x.node(6, 0, what), NONE);
            due("structure 40", x.node(40, 0, what), NONE);
        }
    }

    private static void nodeKey() {
        sentence("Promise 21: The key of node i, numbered likewise; 0, if there is none such.");
        Counted x = of(PLAIN, TURNING, SKEW, UPWARD, DOUBLING, GAPPED);
        for (int s = 0; s < 6; s++) {
            due("of none", x.nodeKey(s, 0), 0);
            x.rise(s, 7, 2);
            due("the root", x.nodeKey(s, 0), s > 3 ? 0 : s % 2 == 0 ? 7 : 8);
            due("the other", x.nodeKey(s, 1), s > 3 ? 0 : s % 2 == 0 ? 8 : 7);
            due("behind the last", x.nodeKey(s, 2), 0);
            for (int i : FAR) {
                due("node " + i, x.nodeKey(s, i), 0);
            }
        }
        due("structure 6", x.nodeKey(6, 0), 0);
        due("structure 40", x.nodeKey(40, 0), 0);
        for (int s : FAR) {
            due("structure " + s, x.nodeKey(s, 0), 0);
        }
    }

    private static void ledger() {
        sentence("Promise 22: Row i of the LEDGER. NONE: there is no such row, or what.");
        Counted x = of(PLAIN, GAPPED);
        for (int what = 0; what < 4; what++) {
            due("of none", x.ledger(0, what), NONE);
        }
        x.rise(0, 1, 2);
        x.push(1, 5);
        int[][] rows = {{0, 24, 0, 0}, {0, 48, 1, 0}, {1, 3, 1, 1}};
        for (int i = 0; i < rows.length; i++) {
            for (int what = 0; what < 4; what++) {
                due("row " + i + ", " + what, x.ledger(i, what), rows[i][what]);
            }
            due("what 4", x.ledger(i, 4), NONE);
            for (int what : FAR) {
                due("what " + what, x.ledger(i, what), NONE);
            }
        }
        for (int what = 0; what < 4; what++) {
            due("row 3", x.ledger(3, what), NONE);
            due("row 20000", x.ledger(MOST, what), NONE);
            for (int i : FAR) {
                due("row " + i, x.ledger(i, what), NONE);
            }
        }
        sentence("Promise 22: 0 the structure (of split, join, meld the first), 3 the POTENTIAL "
            + "of that structure behind the act");
        x = of(TURNING, SKEW, SKEW);
        x.rise(0, 1, 5);
        x.rise(2, 1, 3);
        x.split(0, 3);
        act("split", x, 0, 72, 5, 3);
        x.join(0, 3);
        act("join", x, 0, 72, 0, 3 * (2 + 1 + 1));
        x.meld(1, 2);
        act("meld", x, 1, 6, 0, 0);
    }

    private static void spread() {
        sentence("Promise 23: NONE: n is below 1, or there are not so many");
        Counted x = of(DOUBLING);
        due("1 of none", x.spread(1), NONE);
        due("0 of none", x.spread(0), NONE);
        x.push(0, 1);
        due("1 of one", x.spread(1), 0);
        due("2 of one", x.spread(2), NONE);
        due("0 of one", x.spread(0), NONE);
        for (int n : FAR) {
            due("n " + n, x.spread(n), NONE);
        }
        sentence("Promise 23: The first of the n neighbouring rows of the LEDGER that have the "
            + "most STEPS in all");
        x.rise(0, 1, 11);
        // Steps: 1 1 1 1 5 1 1 1 9 1 1 1
        int[] first = {8, 7, 6, 5, 4, 3, 2, 1, 0, 0, 0, 0};
        for (int n = 1; n <= 12; n++) {
            due("spread " + n, x.spread(n), first[n - 1]);
        }
        due("spread 13", x.spread(13), NONE);
        x = of(DOUBLING, PLAIN);
        x.rise(1, 1, 9);
        due("the last one", x.spread(1), 8);
        due("the last four", x.spread(4), 5);
        x.rise(0, 1, 9);
        // Steps: 0 .. 8, and 1 1 1 1 5 1 1 1 9
        due("across structures", x.spread(10), 4);
        due("all but one", x.spread(17), 1);
        due("all", x.spread(18), 0);
        due("more", x.spread(19), NONE);
    }

    private static void spreadOfSeveral() {
        sentence("Promise 23: of several the least");
        Counted x = of(DOUBLING);
        x.rise(0, 1, 4);
        for (int n = 1; n <= 4; n++) {
            due("all alike: " + n, x.spread(n), 0);
        }
        x = of(PLAIN);
        x.rise(0, 1, 2);
        x.find(0, 1);
        x.find(0, 2);
        // Steps: 0 1 0 1
        due("1", x.spread(1), 1);
        due("2", x.spread(2), 0);
        due("3", x.spread(3), 1);
        x = of(PLAIN);
        x.find(0, 1);
        x.find(0, 1);
        due("all are 0", x.spread(1), 0);
        due("all are 0", x.spread(2), 0);
    }

    private static void count() {
        sentence("Promise 24: How many: 0 structures, 1 entries and numbers in all, 2 rows of the "
            + "LEDGER. NONE: another what.");
        Counted x = of(PLAIN, TURNING, SKEW, UPWARD, DOUBLING, GAPPED);
        for (int s = 0; s < 6; s++) {
            x.rise(s, 1, 2);
            x.rise(s, 1, 1);
        }
        due("structures", x.count(0), 6);
        due("entries", x.count(1), 18);
        due("rows", x.count(2), 18);
        due("another", x.count(3), NONE);
        for (int what : FAR) {
            due("count " + what, x.count(what), NONE);
        }
        x.drop(0, 1);
        x.drop(1, 9);
        x.pop(2);
        x.pull(4);
        due("split", x.split(1, 2), 6);
        due("structures", x.count(0), 7);
        due("entries", x.count(1), 15);
        due("rows", x.count(2), 23);
        x.join(1, 6);
        due("none comes, none goes", x.count(1), 15);
    }
}
