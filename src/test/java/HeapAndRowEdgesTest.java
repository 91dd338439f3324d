/** What 'Terms' says of heaps and rows: a test for each sentence, at the edges that it names. */
public final class HeapAndRowEdgesTest extends Bench {
    public static void main(String[] args) {
        lesserOrGreaterFirst();
        equalKeys();
        equalKeysOfSeveralHeaps();
        meldedWithAnEmptyOne();
        meldedBySteps();
        insertAsTheSecond();
        popOfLittle();
        meldEmptiesTheSecond();
        potentialOfHeaps();
        priceOfHeaps();
        placesAtFirst();
        pushWithAllPlacesTaken();
        pullFromDoubling();
        pullFromGapped();
        pullAtAQuarter();
        growAndShrinkAgain();
        potentialOfRows();
        priceOfRows();
        CHECKS.end();
    }

    private static void lesserOrGreaterFirst() {
        sentence("Of two entries the one with the lesser key (in an UPWARD one the greater key) "
            + "comes FIRST");
        long[] keys = {0, GREATEST, -1, LEAST, 1, 1L << 32};
        long[] rising = {LEAST, -1, 0, 1, 1L << 32, GREATEST};
        Counted x = of(SKEW, UPWARD);
        for (long key : keys) {
            x.insert(0, key, 0);
            x.insert(1, key, 0);
        }
        for (int i = 0; i < keys.length; i++) {
            due("skew", x.pop(0), keys.length - 1 - i);
            due("skew " + i, x.foundKey(), rising[i]);
            due("upward", x.pop(1), keys.length - 1 - i);
            due("upward " + i, x.foundKey(), rising[keys.length - 1 - i]);
        }
    }

    private static void equalKeys() {
        sentence("of equal keys the one that came first");
        for (int kind = SKEW; kind <= UPWARD; kind++) {
            Counted x = of(kind);
            int[] values = {4, -1, 4, 0, 9, -7};
            for (int value : values) {
                x.insert(0, 5, value);
            }
            for (int value : values) {
                x.pop(0);
                found("equal keys", x, 5, value);
            }
        }
    }

    private static void equalKeysOfSeveralHeaps() {
        sentence("each node has one entry, which came as a number (of all entries that ever came "
            + "to heaps, from 0 on)");
        for (int kind = SKEW; kind <= UPWARD; kind++) {
            Counted x = of(kind, kind);
            x.insert(0, 9, 0);
            x.pop(0);
            for (int i = 1; i <= 8; i++) {
                // By turns, and the first of all to the second heap.
                x.insert(i % 2, 5, i);
            }
            due("meld", x.meld(0, 1), 8);
            x.insert(1, 5, 9);
            due("meld again", x.meld(1, 0), 9);
            for (int i = 1; i <= 9; i++) {
                x.pop(1);
                found("as they came to both", x, 5, i);
            }
        }
    }

    private static void meldedWithAnEmptyOne() {
        sentence("MELDED: of two heaps, one being empty: the other one");
        Counted x = of(SKEW, SKEW);
        due("both", x.meld(0, 1), 0);
        act("both", x, 0, 4, 0, 0);
        insertAll(x, 1, 1, 2, 3);
        keys("ahead", x, 1, 1, 3, 2);
        due("the first", x.meld(0, 1), 3);
        act("the first", x, 0, 6, 0, 0);
        keys("nothing changes sides", x, 0, 1, 3, 2);
        keys("second", x, 1);
        due("the second", x.meld(0, 1), 3);
        act("the second", x, 0, 6, 0, 0);
        keys("nothing changes sides", x, 0, 1, 3, 2);
        x = of(UPWARD);
        due("insert into none", x.insert(0, 7, 7), 1);
        act("insert into none", x, 0, 4, 0, 0);
    }

    private static void meldedBySteps() {
        sentence("Else the root that comes FIRST is the root: a STEP; its right child and the "
            + "other heap are melded, what that gives becomes its left child, and what was its "
            + "left child its right one");
        Counted x = of(SKEW, SKEW, UPWARD, UPWARD);
        x.insert(0, 1, 0);
        x.insert(1, 2, 0);
        due("one and one", x.meld(0, 1), 2);
        act("one and one", x, 0, 4, 1, 0);
        keys("one and one", x, 0, 1, 2);
        due("it hangs left", x.node(0, 0, 2), 1);
        insertAll(x, 0, 3);
        keys("the left one goes right", x, 0, 1, 3, 2);
        insertAll(x, 1, 4, 5, 6);
        keys("the other", x, 1, 4, 6, 5);
        // 1 is first, then its right child 2, which has no right child.
        due("three and three", x.meld(0, 1), 6);
        act("three and three", x, 0, 2 * (1 + 1 + 2), 2, 0);
        keys("three and three", x, 0, 1, 2, 4, 6, 5, 3);
        insertAll(x, 2, 3, 2);
        insertAll(x, 3, 4, 1);
        due("the second's root is first", x.meld(2, 3), 4);
        act("the second's root is first", x, 2, 8, 1, 0);
        keys("the second's root is first", x, 2, 4, 3, 2, 1);
    }

    private static void insertAsTheSecond() {
        sentence("insert: a heap of that one node, as the second, is melded with the heap");
        Counted x = of(SKEW);
        insertAll(x, 0, 5, 4);
        act("over all", x, 0, 4, 1, 0);
        keys("over all", x, 0, 4, 5);
        insertAll(x, 0, 4);
        act("under its equal", x, 0, 6, 1, 0);
        keys("under its equal", x, 0, 4, 4, 5);
        due("it hangs left", x.node(0, 0, 2), 3);
        insertAll(x, 0, 9);
        act("past the root and its right child", x, 0, 6, 2, 0);
        keys("past the root and its right child", x, 0, 4, 5, 9, 4);
    }

    private static void popOfLittle() {
        sentence("pop: the root's entry goes, its left and right child are melded, in this order");
        for (int kind = SKEW; kind <= UPWARD; kind++) {
            Counted x = of(kind);
            insertAll(x, 0, 7);
            due("of one", x.pop(0), 0);
            act("of one", x, 0, 4, 0, 0);
            found("of one", x, 7, 70);
            due("of none", x.pop(0), EMPTY);
            insertAll(x, 0, 7, 7);
            due("of two", x.pop(0), 1);
            act("of two", x, 0, 4, 0, 0);
            insertAll(x, 0, 7, 7);
            due("of three", x.pop(0), 2);
            act("of three", x, 0, 4, 1, 0);
        }
        Counted x = of(SKEW);
        x.rise(0, 1, 5);
        keys("of five", x, 0, 1, 3, 5, 2, 4);
        x.pop(0);
        keys("what hung right is first", x, 0, 2, 3, 5, 4);
        x.pop(0);
        keys("what hung left is first", x, 0, 3, 4, 5);
        x.pop(0);
        keys("what hung left is first", x, 0, 4, 5);
        x.pop(0);
        keys("nothing hung right", x, 0, 5);
    }

    private static void meldEmptiesTheSecond() {
        sentence("meld: the second heap is melded with the first, and is empty then");
        Counted x = of(SKEW, SKEW);
        x.rise(0, 1, 5);
        x.rise(1, 1, 6);
        due("meld", x.meld(0, 1), 11);
        for (int what = 1; what <= 5; what++) {
            due("second: about " + what, x.about(1, what), 0);
        }
        due("second: farthest", x.about(1, 7), 0);
        due("second: pop", x.pop(1), EMPTY);
        due("second: node", x.node(1, 0, 0), NONE);
        due("second: it may be filled again", x.insert(1, 3, 3), 1);
        due("first: not by that", x.about(0, 1), 11);
    }

    private static void potentialOfHeaps() {
        sentence("The POTENTIAL: how many right children have more than half as many nodes (there "
            + "and below) as their parent");
        // A new root over n nodes, and then a last one: the n hang right, of n + 2 in all.
        for (int n = 1; n <= 6; n++) {
            Counted x = of(SKEW);
            x.rise(0, 10, n);
            due("of n rising keys", x.about(0, 4), 0);
            x.insert(0, 5, 0);
            due("n hang left", x.about(0, 4), 0);
            x.insert(0, 99, 0);
            due(n + " of " + (n + 2) + " hang right", x.about(0, 4), n > 2 ? 1 : 0);
            due("in the ledger", x.ledger(n + 1, 3), n > 2 ? 1 : 0);
            x.pop(0);
            due("the root went", x.about(0, 4), 0);
        }
        Counted x = of(SKEW, SKEW);
        x.rise(0, 10, 3);
        insertAll(x, 0, 5, 99, 4, 98);
        due("two of them", x.about(0, 4), 2);
        x.insert(1, 3, 0);
        due("both heaps' come along", x.meld(1, 0), 8);
        due("both heaps' come along", x.about(1, 4), 2);
        due("and leave", x.about(0, 4), 0);
        x = of(SKEW, SKEW);
        x.rise(0, 10, 3);
        insertAll(x, 0, 5, 99);
        x.rise(1, 110, 3);
        insertAll(x, 1, 105, 199);
        due("one of the first", x.about(0, 4), 1);
        due("one of the second", x.about(1, 4), 1);
        // What hung right of 5 is turned left; the second comes below it as it is.
        due("meld", x.meld(0, 1), 10);
        act("the second's is left", x, 0, 12, 3, 1);
        due("the second's is left", x.about(0, 4), 1);
    }

    private static void priceOfHeaps() {
        sentence("PRICE: 2 (lg a + lg b + 2), a, b being the nodes of the two heaps that are "
            + "melded, but at least 1 each (of pop: of what hangs left and right)");
        Counted x = of(SKEW, SKEW, UPWARD);
        int[] lgs = {0, 0, 1, 1, 2, 2, 2, 2, 3};
        for (int a = 0; a < lgs.length; a++) {
            due("insert into " + a, x.price(2, 0, 0), 2 * (lgs[a] + 2));
            due("meld of " + a + " with none", x.price(4, 0, 1), 2 * (lgs[a] + 2));
            due("meld of none with " + a, x.price(4, 1, 0), 2 * (lgs[a] + 2));
            due("pop of " + a, x.price(3, 2, 0), a == 0 ? EMPTY : 2 * (lgs[a - 1] + 2));
            x.insert(0, a, 0);
            due("in the ledger", x.ledger(2 * a, 1), 2 * (lgs[a] + 2));
            // The greater ones come to the root: all others hang left.
            x.insert(2, a, 0);
        }
        x.rise(1, 0, 4);
        due("9 and 4", x.price(4, 0, 1), 2 * (3 + 2 + 2));
        x = of(SKEW);
        x.rise(0, 0, 15);
        due("pop of 7 and 7", x.price(3, 0, 0), 2 * (2 + 2 + 2));
        x.insert(0, 15, 0);
        due("pop of 8 and 7", x.price(3, 0, 0), 2 * (3 + 2 + 2));
        x.pop(0);
        due("in the ledger", x.ledger(16, 1), 2 * (3 + 2 + 2));
        x = of(UPWARD);
        for (int i = 0; i < 9; i++) {
            x.rise(0, 2000L * i, i < 8 ? 2000 : 383);
        }
        due("insert into 16383", x.price(2, 0, 0), 2 * (13 + 2));
        x.insert(0, 99999, 0);
        due("insert into 16384", x.price(2, 0, 0), 2 * (14 + 2));
        due("pop of 16383", x.price(3, 0, 0), 2 * (13 + 2));
    }

    private static void placesAtFirst() {
        sentence("ROWS have places, 4 at first");
        for (int kind = DOUBLING; kind <= GAPPED; kind++) {
            Counted x = of(kind);
            due("none taken", x.about(0, 3), 4);
            for (int i = 1; i <= 4; i++) {
                due("push", x.push(0, i), i);
                due(i + " taken", x.about(0, 3), 4);
                steps("push " + i, x, 1);
            }
        }
    }

    private static void pushWithAllPlacesTaken() {
        sentence("push: if all places are taken, all that lies there is copied into a row of "
            + "twice as many places, a STEP each; then the number is written, a STEP");
        for (int kind = DOUBLING; kind <= GAPPED; kind++) {
            Counted x = of(kind);
            int places = 4;
            for (int i = 1; i <= 65; i++) {
                due("push", x.push(0, 100 - i), i);
                steps("push " + i, x, i > places ? i : 1);
                places = i > places ? 2 * places : places;
                due(i + " taken", x.about(0, 3), places);
            }
            for (int i = 0; i < 65; i++) {
                due("at " + i, x.at(0, i), 99 - i);
            }
        }
    }

    private static void pullFromDoubling() {
        sentence("pull: the last number goes, a STEP");
        Counted x = of(DOUBLING);
        x.rise(0, 1, 17);
        for (int left = 16; left >= 0; left--) {
            due("pull", x.pull(0), left);
            steps("pull to " + left, x, 1);
            found("pull to " + left, x, left + 1, 0);
            due("a DOUBLING one keeps its places", x.about(0, 3), 32);
        }
        due("none is left", x.pull(0), EMPTY);
    }

    private static void pullFromGapped() {
        sentence("in a GAPPED one with more than 4 places of which just a quarter is taken then, "
            + "what is left is copied into one of half as many places, a STEP each");
        Counted x = of(GAPPED);
        x.rise(0, 1, 33);
        int places = 64;
        for (int left = 32; left >= 0; left--) {
            due("pull", x.pull(0), left);
            boolean copies = left == 16 || left == 8 || left == 4 || left == 2;
            steps("pull to " + left, x, copies ? 1 + left : 1);
            places = copies ? places / 2 : places;
            due("places at " + left, x.about(0, 3), places);
            found("pull to " + left, x, left + 1, 0);
            due("what is left stays", x.at(0, left - 1), left);
        }
        due("never less than 4", x.about(0, 3), 4);
        due("none is left", x.pull(0), EMPTY);
    }

    private static void pullAtAQuarter() {
        sentence("with more than 4 places: a quarter of 4 is taken, and they stay");
        Counted x = of(GAPPED);
        x.rise(0, 1, 2);
        due("pull", x.pull(0), 1);
        act("one of 4", x, 0, 3, 1, 1);
        due("places", x.about(0, 3), 4);
        sentence("of which just a quarter is taken then: not by a push");
        x = of(GAPPED);
        x.rise(0, 1, 5);
        x.pull(0);
        x.pull(0);
        due("three of 8", x.about(0, 3), 8);
        x.push(0, 4);
        due("four of 8", x.about(0, 3), 8);
        x.pull(0);
        x.pull(0);
        act("two of 8, then of 4", x, 0, 3, 1 + 2, 0);
        due("places", x.about(0, 3), 4);
    }

    private static void growAndShrinkAgain() {
        sentence("a row that has shrunk grows again");
        Counted x = of(GAPPED);
        x.rise(0, 1, 5);
        for (int i = 0; i < 3; i++) {
            x.pull(0);
        }
        due("places", x.about(0, 3), 4);
        due("numbers behind the last are gone", x.at(0, 2), 0);
        x.rise(0, 30, 2);
        steps("all four taken", x, 1);
        x.push(0, 50);
        steps("four are copied", x, 4 + 1);
        due("places", x.about(0, 3), 8);
        long[] numbers = {1, 2, 30, 31, 50, 0};
        for (int i = 0; i < numbers.length; i++) {
            due("at " + i, x.at(0, i), numbers[i]);
        }
    }

    private static void potentialOfRows() {
        sentence("The POTENTIAL: twice of how many more than half of the places are taken (0, if "
            + "not more)");
        int[] ofDoubling = {0, 0, 0, 2, 4, 2, 4, 6, 8, 2};
        Counted x = of(DOUBLING, GAPPED);
        for (int i = 0; i < ofDoubling.length; i++) {
            due("doubling with " + i, x.about(0, 4), ofDoubling[i]);
            x.push(0, i);
        }
        for (int left = 9; left >= 0; left--) {
            x.pull(0);
            due("doubling, 16 places, " + left, x.about(0, 4), left > 8 ? 2 * (left - 8) : 0);
        }
        sentence("of a GAPPED one of which less than half is taken: how many lack of the half");
        int[] ofGapped = {2, 1, 0, 2, 4, 2, 4, 6, 8, 2};
        for (int i = 0; i < ofGapped.length; i++) {
            due("gapped with " + i, x.about(1, 4), ofGapped[i]);
            x.push(1, i);
        }
        int[] back = {2, 0, 1, 2, 3, 0, 1, 0, 1, 2};
        for (int i = 0; i < back.length; i++) {
            x.pull(1);
            due("gapped, back to " + (9 - i), x.about(1, 4), back[i]);
        }
    }

    private static void priceOfRows() {
        sentence("PRICE: 3");
        for (int kind = DOUBLING; kind <= GAPPED; kind++) {
            Counted x = of(kind);
            for (int i = 0; i < 9; i++) {
                due("to push", x.price(2, 0, 0), 3);
                x.push(0, i);
                due("in the ledger", x.ledger(i, 1), 3);
                due("to pull", x.price(3, 0, 0), 3);
            }
            for (int i = 9; i < 18; i++) {
                x.pull(0);
                due("in the ledger", x.ledger(i, 1), 3);
            }
            due("to pull nothing", x.price(3, 0, 0), EMPTY);
        }
    }
}
