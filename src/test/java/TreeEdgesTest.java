/** What 'Terms' says of trees: a test for each sentence, at the edges that it names. */
public final class TreeEdgesTest extends Bench {
    public static void main(String[] args) {
        valuesOfANode();
        goingWithoutAChild();
        goingToAKey();
        treeWithoutNodes();
        firstNodeOfAll();
        insertSteps();
        belowAndAbove();
        besideTheEndsOfLongs();
        turnedUpNotAtAll();
        turnedOverTheRoot();
        turnedOnOneSide();
        turnedOnTwoSides();
        turnedSeveralTimes();
        whatIsTurnedUp();
        droppedFromTurning();
        droppedFromTurningDeeper();
        droppedLackingAChild();
        droppedWithBothChildren();
        splitBesideKeys();
        splitOfLittle();
        splitTurnsTheLast();
        joinWithoutNodes();
        joinOfBoth();
        potentialOfTurning();
        potentialOfPlain();
        priceByNodes();
        CHECKS.end();
    }

    private static void valuesOfANode() {
        sentence("their NODES have different keys, and each the values that came under its key, "
            + "in the order in which they came (one at least)");
        for (int kind = PLAIN; kind <= TURNING; kind++) {
            Counted x = of(kind);
            int[] values = {3, 1, 2};
            for (int i = 0; i < 3; i++) {
                due("insert", x.insert(0, 5, values[i]), i + 1);
                due("one node", x.about(0, 1), 1);
                due("its values", x.node(0, 0, 3), i + 1);
                due("its first", x.node(0, 0, 4), 3);
            }
            for (int i = 0; i < 3; i++) {
                due("first value", x.node(0, 0, 4), values[i]);
                due("drop", x.drop(0, 5), 1);
                found("drop", x, 5, values[i]);
                due("node stays while it has one", x.about(0, 1), i < 2 ? 1 : 0);
            }
            due("no node without values", x.node(0, 0, 3), NONE);
            due("a value comes anew", x.insert(0, 5, 9), 1);
            due("alone", x.node(0, 0, 4), 9);
        }
    }

    private static void goingWithoutAChild() {
        sentence("a going to a child that there is not ends there (no STEP)");
        for (int kind = PLAIN; kind <= TURNING; kind++) {
            Counted x = treeOf(kind, 5);
            for (long key = 4; key <= 6; key++) {
                due("find", x.find(0, key), key == 5 ? 1 : 0);
                steps("find " + key, x, 0);
                due("below", x.below(0, key), key > 5 ? 1 : 0);
                steps("below " + key, x, 0);
                due("above", x.above(0, key), key < 5 ? 1 : 0);
                steps("above " + key, x, 0);
            }
            due("drop", x.drop(0, 4), 0);
            steps("drop 4", x, 0);
            due("drop", x.drop(0, 6), 0);
            steps("drop 6", x, 0);
            due("drop", x.drop(0, 5), 1);
            steps("drop 5", x, 0);
        }
    }

    private static void goingToAKey() {
        sentence("One goes TO a key from the root, left if it is less than the node's, right if "
            + "greater, until it is met or there is no child.");
        Counted x = treeOf(PLAIN, 50, 20, 80, 10, 30);
        long[] keys = {50, 20, 80, 10, 30, 15, 25, 35, 90, 5};
        int[] steps = {0, 1, 1, 2, 2, 2, 2, 2, 1, 2};
        for (int i = 0; i < keys.length; i++) {
            due("find " + keys[i], x.find(0, keys[i]), i < 5 ? 1 : 0);
            steps("find " + keys[i], x, steps[i]);
        }
        // So far apart that the difference of two keys is no long.
        x = treeOf(PLAIN, -2, GREATEST);
        due("greatest hangs right", x.node(0, 0, 2), 2);
        due("greatest is met", x.find(0, GREATEST), 1);
        x = treeOf(PLAIN, 2, LEAST);
        due("least hangs left", x.node(0, 0, 2), 1);
        due("least is met", x.find(0, LEAST), 1);
        // Alike in all that an int holds.
        x = treeOf(PLAIN, 1L, (1L << 32) + 1);
        due("two nodes", x.about(0, 1), 2);
        due("the farther one hangs right", x.node(0, 0, 2), 2);
    }

    private static void treeWithoutNodes() {
        sentence("(In a tree without nodes one goes nowhere, nothing is turned.)");
        for (int kind = PLAIN; kind <= TURNING; kind++) {
            Counted x = of(kind);
            due("find", x.find(0, 0), 0);
            act("find", x, 0, 24, 0, 0);
            due("drop", x.drop(0, 0), 0);
            act("drop", x, 0, 24, 0, 0);
            due("below", x.below(0, GREATEST), 0);
            act("below", x, 0, 24, 0, 0);
            due("above", x.above(0, LEAST), 0);
            act("above", x, 0, 24, 0, 0);
            found("nothing", x, 0, 0);
        }
        Counted x = of(TURNING, TURNING);
        due("split", x.split(0, 0), 2);
        act("split", x, 0, 24, 0, 0);
        due("join", x.join(0, 1), 0);
        act("join", x, 0, 24, 0, 0);
        keys("still nothing", x, 0);
    }

    private static void firstNodeOfAll() {
        sentence("(the first node of all is the root: no STEP)");
        for (int kind = PLAIN; kind <= TURNING; kind++) {
            Counted x = of(kind);
            due("insert", x.insert(0, 5, 0), 1);
            act("insert", x, 0, 24, 0, 0);
            x.drop(0, 5);
            due("where all went", x.insert(0, 7, 0), 1);
            act("where all went", x, 0, 24, 0, 0);
            x.insert(0, 6, 0);
            x.drop(0, 7);
            x.drop(0, 6);
            due("where two went", x.insert(0, 6, 0), 1);
            act("where two went", x, 0, 24, 0, 0);
        }
        Counted x = treeOf(TURNING, 1, 2);
        due("split off all", x.split(0, 0), 1);
        x.insert(0, 5, 0);
        act("where all were split off", x, 0, 24, 0, 0);
        due("join", x.join(1, 0), 3);
        x.insert(0, 9, 0);
        act("where all were joined away", x, 0, 24, 0, 0);
    }

    private static void insertSteps() {
        sentence("if it is met, the value comes behind its others; else a node with that key and "
            + "value is hung where there was no child, and one goes there, too, a STEP");
        Counted x = treeOf(PLAIN, 50);
        due("met at the root", x.insert(0, 50, 1), 2);
        steps("met at the root", x, 0);
        due("hung left", x.insert(0, 20, 1), 1);
        steps("hung left", x, 1);
        due("hung right", x.insert(0, 80, 1), 1);
        steps("hung right", x, 1);
        due("met below", x.insert(0, 80, 2), 2);
        steps("met below", x, 1);
        due("hung two below", x.insert(0, 70, 1), 1);
        steps("hung two below", x, 2);
        keys("hung", x, 0, 50, 20, 80, 70);
        x = treeOf(TURNING, 50);
        due("hung, then turned", x.insert(0, 20, 1), 1);
        steps("hung, then turned", x, 1 + 1);
        due("met, then turned", x.insert(0, 50, 1), 2);
        steps("met, then turned", x, 1 + 1);
        due("met at the root", x.insert(0, 50, 1), 3);
        steps("met at the root", x, 0);
    }

    private static void belowAndAbove() {
        sentence("at each node right if its key is less than (above: not greater than) the key, "
            + "else left, until there is no child; the node with the greatest key that is less "
            + "(the least that is greater) is FOUND");
        Counted x = treeOf(PLAIN, 50, 20, 80, 30, 70);
        long[][] belows = {{50, 2, 30}, {20, 1, 0}, {21, 2, 20}, {80, 2, 70}, {81, 1, 80},
            {31, 2, 30}, {30, 2, 20}, {51, 2, 50}, {19, 1, 0}};
        for (long[] row : belows) {
            beside("below", x, x.below(0, row[0]), row);
        }
        long[][] aboves = {{50, 2, 70}, {80, 1, 0}, {79, 2, 80}, {20, 2, 30}, {19, 1, 20},
            {69, 2, 70}, {70, 2, 80}, {49, 2, 50}, {81, 1, 0}};
        for (long[] row : aboves) {
            beside("above", x, x.above(0, row[0]), row);
        }
        sentence("is FOUND, but the last node is turned up");
        x = treeOf(TURNING, 80, 50);
        due("below", x.below(0, 60), 1);
        steps("below", x, 1 + 1);
        found("below", x, 50, 500);
        keys("below", x, 0, 80, 50);
        due("above", x.above(0, 60), 1);
        steps("above", x, 1 + 1);
        found("above", x, 80, 800);
        keys("above", x, 0, 50, 80);
    }

    /** A row: the key, the steps, and what is found (0: nothing). */
    private static void beside(String call, Counted x, int answer, long[] row) {
        due(call + " " + row[0], answer, row[2] == 0 ? 0 : 1);
        steps(call + " " + row[0], x, (int) row[1]);
        if (row[2] != 0) {
            found(call + " " + row[0], x, row[2], (int) row[2] * 10);
        }
    }

    private static void besideTheEndsOfLongs() {
        sentence("the greatest key that is less (the least that is greater): at the ends of longs");
        for (int kind = PLAIN; kind <= TURNING; kind++) {
            Counted x = treeOf(kind, 0, LEAST, GREATEST);
            due("nothing is below the least", x.below(0, LEAST), 0);
            due("nothing is above the greatest", x.above(0, GREATEST), 0);
            found("nothing", x, 0, 0);
            due("below the greatest", x.below(0, GREATEST), 1);
            due("is 0", x.foundKey(), 0);
            due("above 0", x.above(0, 0), 1);
            due("is the greatest", x.foundKey(), GREATEST);
            due("below 0", x.below(0, 0), 1);
            due("is the least", x.foundKey(), LEAST);
            due("above the least", x.above(0, LEAST), 1);
            due("is 0 again", x.foundKey(), 0);
        }
    }

    private static void turnedUpNotAtAll() {
        sentence("as long as it has a parent");
        Counted x = treeOf(TURNING, 1, 2, 3);
        due("the root", x.find(0, 3), 1);
        steps("the root", x, 0);
        keys("the root", x, 0, 3, 2, 1);
        due("missing beside the root", x.find(0, 4), 0);
        steps("missing beside the root", x, 0);
        keys("missing beside the root", x, 0, 3, 2, 1);
    }

    private static void turnedOverTheRoot() {
        sentence("if that is the root, it is turned over its parent, a STEP");
        Counted x = treeOf(TURNING, 1, 2);
        due("left child", x.find(0, 1), 1);
        steps("left child", x, 1 + 1);
        keys("left child", x, 0, 1, 2);
        due("its parent hangs right", x.node(0, 0, 2), 2);
        due("right child", x.find(0, 2), 1);
        steps("right child", x, 1 + 1);
        keys("right child", x, 0, 2, 1);
        due("its parent hangs left", x.node(0, 0, 2), 1);
        sentence("it takes the parent's place, the parent becomes its child on the other side, "
            + "and takes what hung there");
        x = treeOf(TURNING, 1, 3, 2, 4);
        keys("4 over 2 over 1 and 3", x, 0, 4, 3, 2, 1);
        x.find(0, 2);
        keys("2 was two below", x, 0, 2, 1, 3, 4);
        x.find(0, 3);
        keys("3 over 2", x, 0, 3, 2, 1, 4);
        x.find(0, 2);
        keys("2 takes nothing, 3 keeps 4", x, 0, 2, 1, 3, 4);
    }

    private static void turnedOnOneSide() {
        sentence("if node and parent are both left, or both right children, the parent is first "
            + "turned over the grandparent, then the node over the parent");
        Counted x = treeOf(TURNING, 1, 2, 3);
        keys("all hang left", x, 0, 3, 2, 1);
        due("find", x.find(0, 1), 1);
        steps("both turns are one", x, 2 + 1);
        keys("all hang right", x, 0, 1, 2, 3);
        due("find", x.find(0, 3), 1);
        steps("both turns are one", x, 2 + 1);
        keys("all hang left again", x, 0, 3, 2, 1);
    }

    private static void turnedOnTwoSides() {
        sentence("else the node over its parent, and then over what was the grandparent");
        Counted x = treeOf(TURNING, 1, 3);
        due("right child of a left one", x.insert(0, 2, 0), 1);
        steps("right child of a left one", x, 1 + 1 + 1);
        keys("2 over both", x, 0, 2, 1, 3);
        x = treeOf(TURNING, 3, 1);
        due("left child of a right one", x.insert(0, 2, 0), 1);
        steps("left child of a right one", x, 1 + 1 + 1);
        keys("2 over both", x, 0, 2, 1, 3);
    }

    private static void turnedSeveralTimes() {
        sentence("else, with a grandparent, both turns together a STEP");
        // From n below the root: n goings, and half as many turnings, rounded up.
        for (int n = 1; n <= 9; n++) {
            Counted x = of(TURNING);
            x.rise(0, 0, n + 1);
            due("the way", x.about(0, 7), n);
            due("find", x.find(0, 0), 1);
            steps(n + " below the root", x, n + (n + 1) / 2);
            due("it is the root", x.nodeKey(0, 0), 0);
        }
        Counted x = treeOf(TURNING, 1, 2, 3, 4);
        x.find(0, 1);
        keys("two turns, then one", x, 0, 1, 4, 2, 3);
        x = treeOf(TURNING, 1, 2, 3, 4, 5);
        x.find(0, 1);
        keys("two turns twice", x, 0, 1, 4, 2, 3, 5);
    }

    private static void whatIsTurnedUp() {
        sentence("In a TURNING tree the last node to which one came (the new one, if there is "
            + "one) is TURNED UP then");
        Counted x = treeOf(TURNING, 10, 20, 30);
        due("what is met", x.find(0, 20), 1);
        due("what is met", x.nodeKey(0, 0), 20);
        due("the last of a vain find", x.find(0, 15), 0);
        due("the last of a vain find", x.nodeKey(0, 0), 10);
        due("the last of a vain drop", x.drop(0, 35), 0);
        due("the last of a vain drop", x.nodeKey(0, 0), 30);
        due("a new one", x.insert(0, 15, 0), 1);
        due("a new one", x.nodeKey(0, 0), 15);
        due("one that gets a value", x.insert(0, 30, 0), 2);
        due("one that gets a value", x.nodeKey(0, 0), 30);
        due("one that loses a value", x.insert(0, 10, 0), 2);
        x.find(0, 30);
        due("one that loses a value", x.drop(0, 10), 1);
        due("one that loses a value", x.nodeKey(0, 0), 10);
        x.find(0, 30);
        due("the last of a vain below", x.below(0, 10), 0);
        due("the last of a vain below", x.nodeKey(0, 0), 10);
        due("the last of a vain above", x.above(0, 30), 0);
        due("the last of a vain above", x.nodeKey(0, 0), 30);
        sentence("a PLAIN tree is not turned");
        x = treeOf(PLAIN, 10, 20, 30);
        x.find(0, 30);
        x.below(0, 30);
        x.above(0, 10);
        x.insert(0, 20, 1);
        x.drop(0, 20);
        keys("as it was", x, 0, 10, 20, 30);
    }

    private static void droppedFromTurning() {
        sentence("if it has no left child, what hangs right is the tree");
        Counted x = treeOf(TURNING, 1, 2, 3);
        due("drop", x.drop(0, 1), 1);
        act("drop", x, 0, 72, 2 + 1, 3);
        keys("what hung right", x, 0, 2, 3);
        due("drop", x.drop(0, 2), 1);
        act("drop", x, 0, 48, 0, 0);
        keys("what hung right", x, 0, 3);
        due("drop of the only one", x.drop(0, 3), 1);
        act("drop of the only one", x, 0, 48, 0, 0);
        keys("nothing hung right", x, 0);
        due("again", x.drop(0, 3), 0);
        sentence("in what hangs left, one goes from its topmost node right until there is no child");
        x = treeOf(TURNING, 1, 3, 2);
        due("a left child without a right one", x.drop(0, 2), 1);
        act("no going, no turn", x, 0, 72, 0, 3);
        keys("3 hangs right of 1", x, 0, 1, 3);
        x = treeOf(TURNING, 1, 2, 3);
        due("nothing hangs right", x.drop(0, 3), 1);
        act("nothing hangs right", x, 0, 72, 0, 3);
        keys("nothing hangs right", x, 0, 2, 1);
        due("nor right of the heir", x.node(0, 0, 2), 1);
    }

    private static void droppedFromTurningDeeper() {
        sentence("and turns the last one up there (STEPS as above), and what hung right becomes "
            + "its right child");
        Counted x = treeOf(TURNING, 4, 3, 2, 1, 5);
        keys("ahead", x, 0, 5, 2, 1, 4, 3);
        due("one going, one turn", x.drop(0, 5), 1);
        act("one going, one turn", x, 0, 72, 1 + 1, 3 * (2 + 1));
        keys("one going, one turn", x, 0, 4, 2, 1, 3);
        x = of(TURNING);
        x.rise(0, 1, 5);
        x.drop(0, 1);
        keys("with a right child, ahead", x, 0, 4, 2, 3, 5);
        due("with a right child", x.drop(0, 4), 1);
        act("with a right child", x, 0, 72, 1 + 1, 3);
        keys("with a right child", x, 0, 3, 2, 5);
        droppedTwoBelow();
    }

    private static void droppedTwoBelow() {
        Counted x = treeOf(TURNING, 6, 5, 4, 3, 2, 1);
        keys("all hang right", x, 0, 1, 2, 3, 4, 5, 6);
        // 7 hangs right of 6 and is turned up three times.
        x.insert(0, 7, 0);
        keys("7 is the root", x, 0, 7, 2, 1, 4, 3, 6, 5);
        due("two goings, both turns are one", x.drop(0, 7), 1);
        act("two goings, both turns are one", x, 0, 96, 2 + 1, 3 * (2 + 2 + 1));
        keys("6 is the root", x, 0, 6, 4, 2, 1, 3, 5);
    }

    private static void droppedLackingAChild() {
        sentence("Of a PLAIN tree: if it lacks a child, the other one (or none) takes its place");
        lacking("root, none", new long[] {50}, 50, 0);
        lacking("root, left", new long[] {50, 20, 10, 30}, 50, 0, 20, 10, 30);
        lacking("root, right", new long[] {50, 80, 70, 90}, 50, 0, 80, 70, 90);
        lacking("left, none", new long[] {50, 20, 80}, 20, 1, 50, 80);
        lacking("left, left", new long[] {50, 20, 80, 10}, 20, 1, 50, 10, 80);
        lacking("left, right", new long[] {50, 20, 80, 30}, 20, 1, 50, 30, 80);
        lacking("right, none", new long[] {50, 20, 80}, 80, 1, 50, 20);
        lacking("right, left", new long[] {50, 20, 80, 70}, 80, 1, 50, 20, 70);
        lacking("right, right", new long[] {50, 20, 80, 90}, 80, 1, 50, 20, 90);
    }

    private static void lacking(String what, long[] keys, long goes, int steps, long... left) {
        Counted x = treeOf(PLAIN, keys);
        due(what, x.drop(0, goes), 1);
        steps(what, x, steps);
        found(what, x, goes, (int) goes * 10);
        keys(what, x, 0, left);
        for (int i = 0; i < left.length; i++) {
            due(what + ": " + left[i] + " is met still", x.find(0, left[i]), 1);
        }
        due(what + ": gone", x.find(0, goes), 0);
        for (int i = 0; i < left.length; i++) {
            due(what + ": then " + left[i] + " goes", x.drop(0, left[i]), 1);
            due(what + ": nodes", x.about(0, 1), left.length - 1 - i);
        }
        keys(what + ": all went", x, 0);
    }

    private static void droppedWithBothChildren() {
        sentence("else one goes to its left child and from there right until there is no child "
            + "(STEPS); that node's key and values come to the place of those that go, and its "
            + "left child (or none) takes its own place");
        lacking("the left child itself", new long[] {50, 20, 80}, 50, 1, 20, 80);
        lacking("with a left child", new long[] {50, 20, 80, 10}, 50, 1, 20, 10, 80);
        lacking("one right of it", new long[] {50, 20, 80, 30}, 50, 2, 30, 20, 80);
        lacking("with a left child", new long[] {50, 20, 80, 30, 25}, 50, 2, 30, 20, 25, 80);
        lacking("two right of it", new long[] {50, 20, 80, 30, 40}, 50, 3, 40, 20, 30, 80);
        lacking("below the root", new long[] {50, 20, 80, 10, 30}, 20, 1 + 1, 50, 10, 30, 80);
        lacking("right of the root", new long[] {50, 20, 80, 70, 90}, 80, 1 + 1, 50, 20, 70, 90);
        Counted x = treeOf(PLAIN, 50, 20, 80);
        x.insert(0, 20, 7);
        x.insert(0, 20, 8);
        x.drop(0, 50);
        due("all its values come", x.node(0, 0, 3), 3);
        due("values in all", x.about(0, 2), 4);
        due("and others behind them", x.insert(0, 20, 9), 4);
        for (int value : new int[] {200, 7, 8, 9}) {
            due("in their order", x.drop(0, 20), 1);
            found("in their order", x, 20, value);
        }
        keys("80 is left", x, 0, 80);
    }

    private static void splitBesideKeys() {
        sentence("if the root's key is less than the key, what hangs right becomes the tree of a "
            + "new structure (of the same kind), else the root with what hangs right does, and "
            + "what hung left stays");
        for (long key = 0; key <= 50; key += 5) {
            Counted x = of(TURNING);
            insertAll(x, 0, 30, 10, 40, 20);
            int stay = (int) Math.min(4, Math.max(0, (key - 5) / 10));
            due("split at " + key, x.split(0, key), 1);
            due("of the same kind", x.about(1, 0), TURNING);
            due("stay at " + key, x.about(0, 1), stay);
            due("go at " + key, x.about(1, 1), 4 - stay);
            for (long k = 10; k <= 40; k += 10) {
                due(k + " stays", x.find(0, k), k < key ? 1 : 0);
                due(k + " goes", x.find(1, k), k < key ? 0 : 1);
            }
        }
        for (long key : new long[] {LEAST, GREATEST}) {
            Counted x = treeOf(TURNING, 0, LEAST, GREATEST);
            due("split at an end", x.split(0, key), 1);
            due("stay", x.about(0, 1), key == LEAST ? 0 : 2);
            due("go", x.about(1, 1), key == LEAST ? 3 : 1);
        }
    }

    private static void splitOfLittle() {
        sentence("split: of no node, and of one");
        Counted x = of(TURNING);
        due("of none", x.split(0, 5), 1);
        act("of none", x, 0, 24, 0, 0);
        due("new is empty", x.about(1, 1), 0);
        x.insert(0, 5, 0);
        due("of one, which is less", x.split(0, 6), 2);
        act("of one, which is less", x, 0, 48, 0, 0);
        keys("it stays", x, 0, 5);
        keys("nothing goes", x, 2);
        due("of one, which is equal", x.split(0, 5), 3);
        act("of one, which is equal", x, 0, 48, 0, 0);
        keys("nothing stays", x, 0);
        keys("it goes", x, 3, 5);
        due("of one, which is greater", x.split(3, 4), 4);
        keys("nothing stays", x, 3);
        keys("it goes", x, 4, 5);
    }

    private static void splitTurnsTheLast() {
        sentence("split (TURNING alone): one goes as for below, and the last node is turned up");
        Counted x = of(TURNING);
        x.rise(0, 1, 5);
        due("at 3: past it to 2", x.split(0, 3), 1);
        act("at 3", x, 0, 72, 3 + 2, 3);
        keys("stay", x, 0, 2, 1);
        keys("go", x, 1, 5, 3, 4);
        due("potential that goes", x.about(1, 4), 3 * (1 + 1));
        x = of(TURNING);
        x.rise(0, 1, 4);
        x.insert(0, 2, 7);
        x.insert(0, 4, 8);
        x.insert(0, 4, 9);
        due("values go along", x.split(0, 3), 1);
        due("values that stay", x.about(0, 2), 3);
        due("values that go", x.about(1, 2), 4);
        due("as long as it goes", x.about(0, 7), 1);
        x = of(TURNING);
        x.rise(0, 1, 5);
        x.find(0, 1);
        due("the last is not less: 5, over all others", x.split(0, 5), 1);
        act("what hung left stays", x, 0, 72, 2 + 1, 3 * (2 + 1 + 1));
        keys("what hung left stays", x, 0, 4, 1, 2, 3);
        keys("the root goes", x, 1, 5);
        due("its potential", x.about(1, 4), 0);
        due("nodes there and below", x.node(1, 0, 1), 1);
    }

    private static void joinWithoutNodes() {
        sentence("if the first has none, it gets the second as it is");
        Counted x = of(TURNING, TURNING);
        x.rise(1, 1, 3);
        due("join", x.join(0, 1), 3);
        act("join", x, 0, 72, 0, 6);
        keys("as it was", x, 0, 3, 2, 1);
        keys("the second is empty", x, 1);
        due("the second without entries", x.about(1, 2), 0);
        due("the second without potential", x.about(1, 4), 0);
        sentence("else one goes from its root right until there is no child, turns the last one "
            + "up: also for a second without nodes");
        x.find(0, 1);
        keys("1 is the root", x, 0, 1, 2, 3);
        due("join", x.join(0, 1), 3);
        act("join", x, 0, 72, 2 + 1, 6);
        keys("3 is the root", x, 0, 3, 2, 1);
        due("nothing right", x.node(0, 0, 2), 1);
    }

    private static void joinOfBoth() {
        sentence("and the second's root becomes its right child");
        Counted x = of(TURNING, TURNING, TURNING);
        insertAll(x, 0, 1);
        insertAll(x, 1, 2);
        due("one and one", x.join(0, 1), 2);
        act("no going, no turn", x, 0, 48, 0, 3);
        keys("one and one", x, 0, 1, 2);
        insertAll(x, 1, 5, 4, 3);
        x.insert(1, 4, 1);
        x.find(1, 3);
        due("two and three", x.join(0, 1), 5);
        due("all their values", x.about(0, 2), 6);
        act("one going, one turn", x, 0, 72, 1 + 1, 3 * (2 + 1 + 1));
        keys("two and three", x, 0, 2, 1, 3, 4, 5);
        due("empty, but there", x.insert(1, 9, 0), 1);
        due("the ends of longs", x.insert(2, GREATEST, 0), 1);
        due("the ends of longs", x.join(1, 2), 2);
        x.insert(2, LEAST, 0);
        due("the ends of longs", x.join(2, 1), 3);
    }

    private static void potentialOfTurning() {
        sentence("The POTENTIAL of a TURNING tree: three times the sum, over its nodes, of lg of "
            + "how many nodes are there and below");
        Counted x = of(TURNING);
        due("of none", x.about(0, 4), 0);
        int[] lgs = {0, 1, 1, 2, 2, 2, 2, 3, 3, 3, 3, 3, 3, 3, 3, 4, 4};
        int sum = 0;
        for (int i = 0; i < lgs.length; i++) {
            x.insert(0, i, 0);
            sum += lgs[i];
            due("of a chain of " + (i + 1), x.about(0, 4), 3 * sum);
        }
        x.insert(0, 3, 1);
        int before = x.about(0, 4);
        x.insert(0, 3, 2);
        due("values do not count", x.about(0, 4), before);
        x = treeOf(TURNING, 1, 3, 2);
        due("of a root with both children", x.about(0, 4), 3);
    }

    private static void potentialOfPlain() {
        sentence("of a PLAIN one 0");
        Counted x = of(PLAIN);
        due("of none", x.about(0, 4), 0);
        x.rise(0, 1, 9);
        due("of nine", x.about(0, 4), 0);
        act("in the ledger", x, 0, 96, 8, 0);
    }

    private static void priceByNodes() {
        sentence("lg n is the greatest whole number r with 2^r at most n (n 1 or more): PRICE of "
            + "each act on trees: 24 lg(n + 1) + 24, n being the nodes of the tree");
        for (int kind = PLAIN; kind <= TURNING; kind++) {
            Counted x = of(kind);
            int nodes = 0;
            for (int r = 0; r < 14; r++) {
                nodes = riseTo(x, nodes, (1 << r) - 1);
                due("price at " + nodes, x.price(0, 0, 0), 24 * r + 24);
                nodes = riseTo(x, nodes, (2 << r) - 2);
                due("price at " + nodes, x.price(0, 0, 0), 24 * r + 24);
            }
            x.find(0, nodes);
            due("in the ledger", x.ledger(nodes, 1), 24 * 13 + 24);
            nodes = riseTo(x, nodes, (1 << 14) - 1);
            due("price at " + nodes, x.price(0, 0, 0), 24 * 14 + 24);
        }
        sentence("(both trees) ahead of it");
        Counted x = of(TURNING, TURNING);
        x.rise(0, 1, 3);
        x.rise(1, 10, 3);
        due("3 and 3", x.price(1, 0, 1), 24 * 2 + 24);
        x.insert(1, 20, 0);
        due("3 and 4", x.price(1, 0, 1), 24 * 3 + 24);
        due("join", x.join(0, 1), 7);
        due("in the ledger", x.ledger(7, 1), 24 * 3 + 24);
        x.drop(0, 1);
        due("a drop's is that ahead of it", x.ledger(8, 1), 24 * 3 + 24);
        due("then less", x.price(0, 0, 0), 24 * 2 + 24);
        x.insert(0, 1, 0);
        due("an insert's is that ahead of it", x.ledger(9, 1), 24 * 2 + 24);
        x.insert(0, 1, 0);
        x.drop(0, 1);
        due("values do not count", x.price(0, 0, 0), 24 * 3 + 24);
    }

    private static int riseTo(Counted x, int nodes, int wanted) {
        int now = nodes;
        while (now < wanted) {
            now += x.rise(0, 1 + now, Math.min(2000, wanted - now));
        }
        return now;
    }
}
