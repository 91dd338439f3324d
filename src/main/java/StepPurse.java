/**
 * Trees, heaps and rows that keep no balance, only accounts. Each act has a price that is told
 * ahead from sizes alone; its steps are counted, and the difference goes to the structure's purse.
 */
public final class StepPurse {
    public static final int NONE = -1, KIND = -2, EMPTY = -3, ORDER = -4, FULL = -5;

    private static final int PLAIN = 0, TURNING = 1, SKEW = 2, UPWARD = 3, DOUBLING = 4, GAPPED = 5;
    private static final int MOST_STRUCTURES = 40;
    private static final int MOST_ENTRIES = 20000;
    private static final int MOST_ACTS = 20000;
    private static final int MOST_RISE = 2000;
    private static final int FIRST_PLACES = 4;
    private static final int ROW_PRICE = 3;

    private static final int PRICE_ON_TREE = 0, PRICE_OF_JOIN = 1, PRICE_TO_BRING = 2;
    private static final int PRICE_TO_TAKE = 3, PRICE_OF_MELD = 4;

    private final Structure[] structures;
    private final Book book;
    private int made;
    /** Entries and numbers in all structures. */
    private int entries;
    /** How many ever came: it tells which of two entries in a heap is the older one. */
    private int came;
    /** What is FOUND. */
    private long latestKey;
    private int latestValue;

    public StepPurse() {
        structures = new Structure[MOST_STRUCTURES];
        book = new Book();
    }

    public int make(int kind) {
        if (kind < PLAIN || kind > GAPPED) {
            return NONE;
        }
        return enrol(newStructure(kind));
    }

    public int insert(int s, long key, int value) {
        Structure x = structureAt(s);
        if (x == null) {
            return NONE;
        }
        if (x instanceof Row) {
            return KIND;
        }
        return noRoomForEntry() ? FULL : bring(s, x, key, value);
    }

    public int rise(int s, long key, int n) {
        Structure x = structureAt(s);
        if (x == null || n < 1 || n > MOST_RISE) {
            return NONE;
        }
        int done = 0;
        while (done < n && !noRoomForEntry()) {
            bring(s, x, key + done, done);
            done++;
        }
        return done;
    }

    public int find(int s, long key) {
        Tree tree = treeAt(s);
        if (tree == null) {
            return noneOrKind(s);
        }
        if (book.isFull()) {
            return FULL;
        }
        int price = tree.actPrice();
        int before = tree.steps;
        Node met = tree.seek(key);
        remember(met);
        closeAct(s, tree, price, before);
        return met == null ? 0 : met.values;
    }

    public int drop(int s, long key) {
        Tree tree = treeAt(s);
        if (tree == null) {
            return noneOrKind(s);
        }
        if (book.isFull()) {
            return FULL;
        }
        int price = tree.actPrice();
        int before = tree.steps;
        Node met = tree.seek(key);
        remember(met);
        if (met != null) {
            tree.loseValue(met);
            entries--;
        }
        closeAct(s, tree, price, before);
        return met == null ? 0 : 1;
    }

    public int below(int s, long key) {
        return seekBeside(s, key, false);
    }

    public int above(int s, long key) {
        return seekBeside(s, key, true);
    }

    public int split(int s, long key) {
        TurningTree tree = turningTreeAt(s);
        if (tree == null) {
            return noneOrKind(s);
        }
        if (made >= MOST_STRUCTURES || book.isFull()) {
            return FULL;
        }
        int price = tree.actPrice();
        int before = tree.steps;
        TurningTree fresh = new TurningTree();
        tree.splitOff(key, fresh);
        int number = enrol(fresh);
        tree.purse -= fresh.purse;
        closeAct(s, tree, price, before);
        return number;
    }

    public int join(int s, int t) {
        TurningTree first = turningTreeAt(s);
        TurningTree second = turningTreeAt(t);
        if (first == null || second == null || first == second) {
            return noneOrKindOfTwo(s, t);
        }
        if (!first.isAllLessThan(second)) {
            return ORDER;
        }
        if (book.isFull()) {
            return FULL;
        }
        int price = treePrice(first.held + second.held);
        int before = first.steps;
        first.takeAll(second);
        takePurse(first, second);
        closeAct(s, first, price, before);
        return first.held;
    }

    public int pop(int s) {
        Heap heap = heapAt(s);
        if (heap == null) {
            return noneOrKind(s);
        }
        if (heap.root == null) {
            return EMPTY;
        }
        if (book.isFull()) {
            return FULL;
        }
        int price = heap.takingPrice();
        int before = heap.steps;
        remember(heap.root);
        heap.loseRoot();
        entries--;
        closeAct(s, heap, price, before);
        return heap.held;
    }

    public int meld(int s, int t) {
        Heap first = heapAt(s);
        Heap second = heapAt(t);
        if (first == null || second == null || !first.mayMeldWith(second)) {
            return noneOrKindOfTwo(s, t);
        }
        if (book.isFull()) {
            return FULL;
        }
        int price = heapPrice(first.held, second.held);
        int before = first.steps;
        first.takeAll(second);
        takePurse(first, second);
        closeAct(s, first, price, before);
        return first.held;
    }

    public int push(int s, long v) {
        Row row = rowAt(s);
        if (row == null) {
            return noneOrKind(s);
        }
        return noRoomForEntry() ? FULL : bring(s, row, v, 0);
    }

    public int pull(int s) {
        Row row = rowAt(s);
        if (row == null) {
            return noneOrKind(s);
        }
        if (row.held == 0) {
            return EMPTY;
        }
        if (book.isFull()) {
            return FULL;
        }
        int before = row.steps;
        latestKey = row.numberAt(row.held - 1);
        latestValue = 0;
        row.loseLast();
        entries--;
        closeAct(s, row, ROW_PRICE, before);
        return row.held;
    }

    public long at(int s, int i) {
        Row row = rowAt(s);
        return row == null ? 0 : row.numberAt(i);
    }

    public long foundKey() {
        return latestKey;
    }

    public int foundValue() {
        return latestValue;
    }

    public int about(int s, int what) {
        Structure x = structureAt(s);
        if (x == null) {
            return NONE;
        }
        switch (what) {
            case 0: return x.kind;
            case 1: return x.held;
            case 2: return x.entriesHeld();
            case 3: return x.placesHeld();
            case 4: return x.potential();
            case 5: return x.purse;
            case 6: return x.steps;
            case 7: return farthest(x.root);
            default: return NONE;
        }
    }

    public int price(int how, int s, int t) {
        Structure x = structureAt(s);
        if (x == null) {
            return NONE;
        }
        switch (how) {
            case PRICE_ON_TREE: return x instanceof Tree ? treePrice(x.held) : KIND;
            case PRICE_OF_JOIN: return priceOfJoin(s, t);
            case PRICE_TO_BRING: return x instanceof Tree ? KIND : x.bringingPrice();
            case PRICE_TO_TAKE: return priceToTake(x);
            case PRICE_OF_MELD: return priceOfMeld(s, t);
            default: return NONE;
        }
    }

    public int node(int s, int i, int what) {
        Structure x = structureAt(s);
        if (x == null || what < 0 || what > 4) {
            return NONE;
        }
        if (x instanceof Row) {
            return KIND;
        }
        Walk walk = walkTo(x.root, i);
        Node here = walk.node;
        if (here == null) {
            return NONE;
        }
        switch (what) {
            case 0: return walk.depth;
            case 1: return nodesFrom(here);
            case 2: return (here.left == null ? 0 : 1) + (here.right == null ? 0 : 2);
            case 3: return here.values;
            default: return here.firstValue();
        }
    }

    public long nodeKey(int s, int i) {
        Structure x = structureAt(s);
        if (x == null) {
            return 0;
        }
        Node here = walkTo(x.root, i).node;
        return here == null ? 0 : here.key;
    }

    public int ledger(int i, int what) {
        return book.read(i, what);
    }

    public int spread(int n) {
        return book.dearestRun(n);
    }

    public int count(int what) {
        switch (what) {
            case 0: return made;
            case 1: return entries;
            case 2: return book.rows;
            default: return NONE;
        }
    }

    // ---- which structure a number means ----

    private Structure structureAt(int s) {
        return s < 0 || s >= structures.length ? null : structures[s];
    }

    private Tree treeAt(int s) {
        return structureAt(s) instanceof Tree tree ? tree : null;
    }

    private TurningTree turningTreeAt(int s) {
        return structureAt(s) instanceof TurningTree tree ? tree : null;
    }

    private Heap heapAt(int s) {
        return structureAt(s) instanceof Heap heap ? heap : null;
    }

    private Row rowAt(int s) {
        return structureAt(s) instanceof Row row ? row : null;
    }

    private int noneOrKind(int s) {
        return structureAt(s) == null ? NONE : KIND;
    }

    private int noneOrKindOfTwo(int s, int t) {
        return structureAt(t) == null ? NONE : noneOrKind(s);
    }

    // ---- what the acts share ----

    private static Structure newStructure(int kind) {
        switch (kind) {
            case PLAIN: return new PlainTree();
            case TURNING: return new TurningTree();
            case SKEW:
            case UPWARD: return new Heap(kind);
            default: return new Row(kind);
        }
    }

    private int enrol(Structure x) {
        int number = made;
        if (number >= structures.length) {
            return FULL;
        }
        structures[number] = x;
        x.purse = x.potential();
        made++;
        return number;
    }

    private boolean noRoomForEntry() {
        return entries >= MOST_ENTRIES || book.isFull();
    }

    private int bring(int s, Structure x, long key, int value) {
        int price = x.bringingPrice();
        int before = x.steps;
        int answer = x.take(key, value, came);
        // Those of trees and rows are numbered along: of the heaps' own only the order counts.
        came++;
        entries++;
        closeAct(s, x, price, before);
        return answer;
    }

    /** An act of below, or of above if it is a greater key that is wanted. */
    private int seekBeside(int s, long key, boolean greater) {
        Tree tree = treeAt(s);
        if (tree == null) {
            return noneOrKind(s);
        }
        if (book.isFull()) {
            return FULL;
        }
        int price = tree.actPrice();
        int before = tree.steps;
        Node best = tree.goBeside(key, greater);
        remember(best);
        closeAct(s, tree, price, before);
        return best == null ? 0 : 1;
    }

    private void remember(Node found) {
        if (found != null) {
            latestKey = found.key;
            latestValue = found.firstValue();
        }
    }

    private static void takePurse(Structure first, Structure second) {
        first.purse += second.purse;
        second.purse = 0;
    }

    private void closeAct(int s, Structure x, int price, int stepsBefore) {
        int taken = x.steps - stepsBefore;
        x.purse += price - taken;
        book.write(s, price, taken, x.potential());
    }

    // ---- prices ----

    private static int lg(int n) {
        int r = 0;
        for (int rest = n; rest > 1; rest >>= 1) {
            r++;
        }
        return r;
    }

    private static int treePrice(int nodes) {
        return 24 * lg(nodes + 1) + 24;
    }

    /** An empty heap counts as one node: lg answers 0 for both. */
    private static int heapPrice(int a, int b) {
        return 2 * (lg(a) + lg(b) + 2);
    }

    private int priceOfJoin(int s, int t) {
        TurningTree first = turningTreeAt(s);
        TurningTree second = turningTreeAt(t);
        if (first == null || second == null || first == second) {
            return noneOrKindOfTwo(s, t);
        }
        return treePrice(first.held + second.held);
    }

    private int priceOfMeld(int s, int t) {
        Heap first = heapAt(s);
        Heap second = heapAt(t);
        if (first == null || second == null || !first.mayMeldWith(second)) {
            return noneOrKindOfTwo(s, t);
        }
        return heapPrice(first.held, second.held);
    }

    private static int priceToTake(Structure x) {
        if (x instanceof Tree) {
            return KIND;
        }
        if (x.held == 0) {
            return EMPTY;
        }
        return x instanceof Heap heap ? heap.takingPrice() : ROW_PRICE;
    }

    // ---- looking at nodes ----

    private static Walk walkTo(Node root, int i) {
        Walk walk = new Walk(i < 0 ? null : root);
        for (int k = 0; k < i && walk.node != null; k++) {
            walk.advance();
        }
        return walk;
    }

    private static int sizeOf(Node top) {
        return top == null ? 0 : top.size;
    }

    /** Counts them, since PLAIN trees keep no sizes. */
    private static int nodesFrom(Node top) {
        Walk walk = new Walk(top);
        walk.advance();
        int nodes = 1;
        while (nodes < MOST_ENTRIES && walk.isBelowStart()) {
            nodes++;
            walk.advance();
        }
        return nodes;
    }

    private static int farthest(Node root) {
        Walk walk = new Walk(root);
        int most = 0;
        for (int k = 0; k < MOST_ENTRIES && walk.node != null; k++) {
            most = Math.max(most, walk.depth);
            walk.advance();
        }
        return most;
    }

    /** Goes through nodes: a node, then all that hangs left of it, then all that hangs right. */
    private static final class Walk {
        Node node;
        /** Goings from the node at which the walk began. */
        int depth;

        Walk(Node start) {
            node = start;
        }

        boolean isBelowStart() {
            return node != null && depth > 0;
        }

        void advance() {
            if (node == null) {
                return;
            }
            Node child = node.left != null ? node.left : node.right;
            if (child != null) {
                node = child;
                depth++;
            } else {
                climb();
            }
        }

        private void climb() {
            Node done = node;
            Node parent = done == null ? null : done.up;
            while (parent != null && (parent.right == null || parent.right == done)) {
                done = parent;
                parent = parent.up;
                depth--;
            }
            // Where there is a node to go on with, it is as far away as the one left behind.
            node = parent == null ? null : parent.right;
        }
    }

    /** The LEDGER. */
    private static final class Book {
        final int[] structure = new int[MOST_ACTS];
        final int[] price = new int[MOST_ACTS];
        final int[] steps = new int[MOST_ACTS];
        final int[] potential = new int[MOST_ACTS];
        int rows;

        boolean isFull() {
            return rows >= MOST_ACTS;
        }

        void write(int s, int itsPrice, int itsSteps, int itsPotential) {
            if (isFull()) {
                return;
            }
            structure[rows] = s;
            price[rows] = itsPrice;
            steps[rows] = itsSteps;
            potential[rows] = itsPotential;
            rows++;
        }

        int read(int i, int what) {
            if (i < 0 || i >= rows) {
                return NONE;
            }
            switch (what) {
                case 0: return structure[i];
                case 1: return price[i];
                case 2: return steps[i];
                case 3: return potential[i];
                default: return NONE;
            }
        }

        int dearestRun(int n) {
            if (n < 1 || n > rows) {
                return NONE;
            }
            int sum = 0;
            for (int i = 0; i < n; i++) {
                sum += steps[i];
            }
            int most = sum;
            int start = 0;
            for (int i = n; i < rows; i++) {
                sum += steps[i] - steps[i - n];
                if (sum > most) {
                    most = sum;
                    start = i - n + 1;
                }
            }
            return start;
        }
    }

    /** What trees, heaps and rows have in common. */
    private abstract static class Structure {
        final int kind;
        /** The topmost node; none in a row. */
        Node root;
        /** Nodes, or numbers of a row. */
        int held;
        int purse;
        /** The steps of all acts; an act's own are what it adds. */
        int steps;

        Structure(int kind) {
            this.kind = kind;
        }

        abstract int potential();

        abstract int bringingPrice();

        /** Takes an entry in, or a row its key as a number; answers as insert and push do. */
        abstract int take(long key, int value, int came);

        int entriesHeld() {
            return held;
        }

        int placesHeld() {
            return 0;
        }
    }

    private static final class Value {
        final int number;
        Value next;

        Value(int number) {
            this.number = number;
        }
    }

    /** A node of a tree or a heap; in a heap it has one value. */
    private static final class Node {
        long key;
        final int came;
        Node left;
        Node right;
        Node up;
        /** Nodes here and below. PLAIN trees don't keep it: their potential needs no sizes. */
        int size = 1;
        int values;
        Value firstOne;
        Value lastOne;

        Node(long key, int value, int came) {
            this.key = key;
            this.came = came;
            firstOne = new Value(value);
            lastOne = firstOne;
            values = 1;
        }

        int firstValue() {
            return firstOne == null ? 0 : firstOne.number;
        }

        void addValue(int value) {
            Value added = new Value(value);
            if (lastOne != null) {
                lastOne.next = added;
            }
            lastOne = added;
            values++;
        }

        void loseFirstValue() {
            if (firstOne != null) {
                firstOne = firstOne.next;
                values--;
            }
        }

        void takeKeyAndValuesOf(Node other) {
            key = other.key;
            values = other.values;
            firstOne = other.firstOne;
            lastOne = other.lastOne;
        }

        /** The child on the way to a key: none if the key is met, or there is no child. */
        Node toward(long wanted) {
            if (wanted == key) {
                return null;
            }
            return wanted < key ? left : right;
        }

        void hangLeft(Node child) {
            left = child;
            if (child != null) {
                child.up = this;
            }
        }

        void hangRight(Node child) {
            right = child;
            if (child != null) {
                child.up = this;
            }
        }
    }

    /** What both kinds of trees do alike. */
    private abstract static class Tree extends Structure {
        int values;
        /** Where the latest way to a key ended; none if nodes were moved or have gone since. */
        Node last;
        /** The nearest node on that way from which it went left. */
        Node turnedLeftAt;
        /** The goings on that way. */
        int depth;

        Tree(int kind) {
            super(kind);
        }

        /** What is done to the last node to which one came, before anything else. */
        abstract void settle(Node arrived);

        /** A new leaf hangs from a node. */
        abstract void noteGrowth(Node parent);

        /** A node to which one has just gone, and which has settled, leaves the tree. */
        abstract void loseNode(Node node);

        int actPrice() {
            return treePrice(held);
        }

        int bringingPrice() {
            return actPrice();
        }

        int entriesHeld() {
            return values;
        }

        int take(long key, int value, int came) {
            goTo(key);
            Node met = last;
            if (met != null && met.key == key) {
                met.addValue(value);
            } else {
                met = new Node(key, value, came);
                hangNew(met);
            }
            values++;
            settle(met);
            return met.values;
        }

        Node seek(long key) {
            goTo(key);
            Node arrived = last;
            settle(arrived);
            return arrived != null && arrived.key == key ? arrived : null;
        }

        void loseValue(Node node) {
            node.loseFirstValue();
            values--;
            if (node.values == 0) {
                held--;
                last = null;
                loseNode(node);
            }
        }

        /** Goes as for below or above, and answers the nearest key on that side. */
        Node goBeside(long key, boolean greater) {
            Node best = null;
            Node arrived = null;
            Node next = root;
            while (next != null) {
                if (arrived != null) {
                    steps++;
                }
                arrived = next;
                boolean goesRight = greater ? arrived.key <= key : arrived.key < key;
                if (goesRight != greater) {
                    best = arrived;
                }
                next = goesRight ? arrived.right : arrived.left;
            }
            settle(arrived);
            return best;
        }

        /** From a node right until there is no child. */
        Node goFarRight(Node from) {
            Node arrived = from;
            while (arrived.right != null) {
                arrived = arrived.right;
                steps++;
            }
            return arrived;
        }

        private void goTo(long key) {
            if (!leadsThroughLast(key)) {
                last = root;
                turnedLeftAt = null;
                depth = 0;
            }
            Node child = last == null ? null : last.toward(key);
            while (child != null) {
                comeTo(child);
                child = child.toward(key);
            }
            steps += depth;
        }

        /**
         * Whether the way from the root to a key leads through the last node. It does if the key
         * lies between that node's and the one from which the way there last went left: then all
         * nodes on that way send one on as before. This spares rise in a PLAIN tree most goings.
         */
        private boolean leadsThroughLast(long key) {
            if (last == null || key < last.key) {
                return false;
            }
            return turnedLeftAt == null || key < turnedLeftAt.key;
        }

        private void comeTo(Node child) {
            if (last != null && last.left == child) {
                turnedLeftAt = last;
            }
            last = child;
            depth++;
        }

        private void hangNew(Node leaf) {
            held++;
            if (last == null) {
                root = leaf;
                return;
            }
            if (leaf.key < last.key) {
                last.hangLeft(leaf);
            } else {
                last.hangRight(leaf);
            }
            steps++;
            noteGrowth(last);
        }
    }

    private static final class PlainTree extends Tree {
        PlainTree() {
            super(PLAIN);
        }

        int potential() {
            return 0;
        }

        void settle(Node arrived) {
            // It stays where it is.
        }

        void noteGrowth(Node parent) {
            // No sizes are kept.
        }

        void loseNode(Node node) {
            Node leaving = node;
            if (node.left != null && node.right != null) {
                steps++;
                leaving = goFarRight(node.left);
                node.takeKeyAndValuesOf(leaving);
            }
            putInPlaceOf(leaving, leaving.left != null ? leaving.left : leaving.right);
        }

        private void putInPlaceOf(Node leaving, Node child) {
            Node parent = leaving.up;
            if (parent == null) {
                root = child;
                if (child != null) {
                    child.up = null;
                }
            } else if (parent.left == leaving) {
                parent.hangLeft(child);
            } else {
                parent.hangRight(child);
            }
        }
    }

    private static final class TurningTree extends Tree {
        /** The sum, over the nodes, of lg of their sizes. */
        int lgSum;

        TurningTree() {
            super(TURNING);
        }

        int potential() {
            return 3 * lgSum;
        }

        /** Turns the node up. */
        void settle(Node arrived) {
            last = null;
            if (arrived == null) {
                return;
            }
            Node parent = arrived.up;
            // Each turn lifts it, so it has no more parents to pass than there are nodes.
            for (int turns = 0; turns < MOST_ENTRIES && parent != null; turns++) {
                Node grandparent = parent.up;
                steps++;
                if (grandparent == null) {
                    turnOver(arrived, parent);
                } else if ((parent.left == arrived) == (grandparent.left == parent)) {
                    turnOver(parent, grandparent);
                    turnOver(arrived, parent);
                } else {
                    turnOver(arrived, parent);
                    turnOver(arrived, grandparent);
                }
                parent = arrived.up;
            }
            root = arrived;
        }

        void noteGrowth(Node parent) {
            Node grown = parent;
            while (grown != null) {
                resize(grown, grown.size + 1);
                grown = grown.up;
            }
        }

        void loseNode(Node node) {
            Node left = node.left;
            Node right = node.right;
            lgSum -= lg(node.size);
            makeRoot(left == null ? right : left);
            if (left != null) {
                settle(goFarRight(left));
                hangRightOfRoot(right);
            }
        }

        boolean isAllLessThan(TurningTree other) {
            Node greatest = root;
            Node least = other.root;
            if (greatest == null || least == null) {
                return true;
            }
            while (greatest.right != null) {
                greatest = greatest.right;
            }
            while (least.left != null) {
                least = least.left;
            }
            return greatest.key < least.key;
        }

        void takeAll(TurningTree other) {
            if (root == null) {
                root = other.root;
            } else {
                settle(goFarRight(root));
                hangRightOfRoot(other.root);
            }
            held += other.held;
            values += other.values;
            lgSum += other.lgSum;
            other.loseAll();
        }

        /** What is not less than the key goes to a fresh tree. */
        void splitOff(long key, TurningTree fresh) {
            goBeside(key, false);
            Node top = root;
            if (top == null) {
                return;
            }
            if (top.key < key) {
                fresh.makeRoot(top.right);
                top.right = null;
                resize(top, top.size - sizeOf(fresh.root));
            } else {
                makeRoot(top.left);
                top.left = null;
                resize(top, top.size - sizeOf(root));
                fresh.makeRoot(top);
            }
            fresh.countNodes();
            held -= fresh.held;
            values -= fresh.values;
            lgSum -= fresh.lgSum;
        }

        private void countNodes() {
            Walk walk = new Walk(root);
            while (held < MOST_ENTRIES && walk.node != null) {
                held++;
                values += walk.node.values;
                lgSum += lg(walk.node.size);
                walk.advance();
            }
        }

        private void loseAll() {
            root = null;
            held = 0;
            values = 0;
            lgSum = 0;
        }

        private void makeRoot(Node top) {
            root = top;
            if (top != null) {
                top.up = null;
            }
        }

        private void hangRightOfRoot(Node child) {
            if (root != null && child != null) {
                root.hangRight(child);
                resize(root, root.size + child.size);
            }
        }

        private void resize(Node node, int size) {
            lgSum += lg(size) - lg(node.size);
            node.size = size;
        }

        private void turnOver(Node node, Node parent) {
            Node above = parent.up;
            boolean wasLeft = above != null && above.left == parent;
            int whole = parent.size;
            int rest = whole - node.size;
            if (parent.left == node) {
                rest += sizeOf(node.right);
                parent.hangLeft(node.right);
                node.hangRight(parent);
            } else {
                rest += sizeOf(node.left);
                parent.hangRight(node.left);
                node.hangLeft(parent);
            }
            lgSum += lg(rest) - lg(node.size);
            parent.size = rest;
            node.size = whole;
            node.up = above;
            if (wasLeft) {
                above.left = node;
            } else if (above != null) {
                above.right = node;
            }
        }
    }

    private static final class Heap extends Structure {
        /** How many right children have more than half of their parent's nodes. */
        int heavy;

        Heap(int kind) {
            super(kind);
        }

        int potential() {
            return heavy;
        }

        int bringingPrice() {
            return heapPrice(held, 1);
        }

        int takingPrice() {
            return root == null ? 0 : heapPrice(sizeOf(root.left), sizeOf(root.right));
        }

        int take(long key, int value, int came) {
            root = melded(root, new Node(key, value, came));
            held++;
            return held;
        }

        boolean mayMeldWith(Heap other) {
            return this != other && kind == other.kind;
        }

        void takeAll(Heap other) {
            heavy += other.heavy;
            root = melded(root, other.root);
            held += other.held;
            other.root = null;
            other.held = 0;
            other.heavy = 0;
        }

        void loseRoot() {
            Node top = root;
            if (top == null) {
                return;
            }
            heavy -= heavyAt(top);
            root = melded(top.left, top.right);
            if (root != null) {
                root.up = null;
            }
            held--;
        }

        /**
         * Melds from the top down: how many nodes will be below a root is known before it is done,
         * so the way down needs no way back, however long it is.
         */
        private Node melded(Node one, Node two) {
            Node top = null;
            Node parent = null;
            Node a = one;
            Node b = two;
            while (a != null && b != null) {
                Node winner = comesFirst(a, b) ? a : b;
                b = winner == a ? b : a;
                a = winner.right;
                steps++;
                putOver(winner, b);
                if (parent == null) {
                    top = winner;
                } else {
                    parent.hangLeft(winner);
                }
                parent = winner;
            }
            Node rest = a == null ? b : a;
            if (parent == null) {
                return rest;
            }
            parent.hangLeft(rest);
            return top;
        }

        /** Its left child goes right; what its right child and the other heap give comes later. */
        private void putOver(Node winner, Node other) {
            heavy -= heavyAt(winner);
            winner.right = winner.left;
            winner.size += other.size;
            heavy += heavyAt(winner);
        }

        private static int heavyAt(Node parent) {
            return 2 * sizeOf(parent.right) > parent.size ? 1 : 0;
        }

        private boolean comesFirst(Node a, Node b) {
            if (a.key == b.key) {
                return a.came < b.came;
            }
            return kind == UPWARD ? a.key > b.key : a.key < b.key;
        }
    }

    private static final class Row extends Structure {
        long[] places = new long[FIRST_PLACES];

        Row(int kind) {
            super(kind);
        }

        int potential() {
            int over = held - places.length / 2;
            if (over < 0) {
                return kind == GAPPED ? -over : 0;
            }
            return 2 * over;
        }

        int bringingPrice() {
            return ROW_PRICE;
        }

        int placesHeld() {
            return places.length;
        }

        int take(long key, int value, int came) {
            if (held >= places.length) {
                copyInto(2 * places.length);
            }
            places[held] = key;
            held++;
            steps++;
            return held;
        }

        long numberAt(int i) {
            return i < 0 || i >= held || i >= places.length ? 0 : places[i];
        }

        void loseLast() {
            if (held == 0) {
                return;
            }
            held--;
            steps++;
            boolean mayShrink = kind == GAPPED && places.length > FIRST_PLACES;
            if (mayShrink && 4 * held == places.length) {
                copyInto(places.length / 2);
            }
        }

        private void copyInto(int count) {
            long[] others = new long[Math.max(count, held)];
            for (int i = 0; i < held && i < places.length; i++) {
                others[i] = places[i];
                steps++;
            }
            places = others;
        }
    }
}
