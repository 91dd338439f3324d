import java.util.ArrayList;
import java.util.List;

/**
 * The document word by word, without any thrift: potentials, sizes and numbers of nodes are counted
 * anew each time, trees have no parents, heaps are melded by recursion. It shares no code and no
 * idea with the class under test, so that a fault is hardly in both.
 */
final class Reference {
    static final int NONE = -1, KIND = -2, EMPTY = -3, ORDER = -4, FULL = -5;

    private static final class Knot {
        long key;
        int came;
        List<Integer> values = new ArrayList<>();
        Knot left;
        Knot right;
    }

    private static final class Thing {
        int kind;
        Knot root;
        List<Long> numbers = new ArrayList<>();
        int places;
        long purse;
        long steps;
    }

    private final List<Thing> things = new ArrayList<>();
    private final List<long[]> rows = new ArrayList<>();
    private int cameToHeaps;
    private long foundKey;
    private int foundValue;
    private long actSteps;
    private Knot top;

    int make(int kind) {
        if (kind < 0 || kind > 5) {
            return NONE;
        }
        if (things.size() == 40) {
            return FULL;
        }
        Thing x = new Thing();
        x.kind = kind;
        x.places = isRow(x) ? 4 : 0;
        x.purse = potential(x);
        things.add(x);
        return things.size() - 1;
    }

    int insert(int s, long key, int value) {
        if (none(s)) {
            return NONE;
        }
        if (isRow(things.get(s))) {
            return KIND;
        }
        if (entries() == 20000 || rows.size() == 20000) {
            return FULL;
        }
        return doInsert(s, key, value);
    }

    int rise(int s, long key, int n) {
        if (none(s) || n < 1 || n > 2000) {
            return NONE;
        }
        for (int i = 0; i < n; i++) {
            if (entries() == 20000 || rows.size() == 20000) {
                return i;
            }
            if (isRow(things.get(s))) {
                doPush(s, key + i);
            } else {
                doInsert(s, key + i, i);
            }
        }
        return n;
    }

    private int doInsert(int s, long key, int value) {
        Thing x = things.get(s);
        Knot fresh = new Knot();
        fresh.key = key;
        fresh.values.add(value);
        if (isHeap(x)) {
            long price = heapPrice(size(x.root), 1);
            fresh.came = cameToHeaps++;
            x.root = melded(x.kind, x.root, fresh);
            close(s, price);
            return size(x.root);
        }
        long price = treePrice(size(x.root));
        List<Knot> way = wayTo(x.root, key);
        Knot last = way.isEmpty() ? null : way.get(way.size() - 1);
        if (last != null && last.key == key) {
            last.values.add(value);
        } else {
            if (last == null) {
                x.root = fresh;
            } else if (key < last.key) {
                last.left = fresh;
            } else {
                last.right = fresh;
            }
            way.add(fresh);
            last = fresh;
        }
        actSteps += way.size() - 1;
        turnUpIn(x, way);
        close(s, price);
        return last.values.size();
    }

    int find(int s, long key) {
        int refusal = treeAct(s);
        if (refusal != 0) {
            return refusal;
        }
        Thing x = things.get(s);
        long price = treePrice(size(x.root));
        Knot met = goAndTurn(x, key);
        if (met != null) {
            found(met.key, met.values.get(0));
        }
        close(s, price);
        return met == null ? 0 : met.values.size();
    }

    int drop(int s, long key) {
        int refusal = treeAct(s);
        if (refusal != 0) {
            return refusal;
        }
        Thing x = things.get(s);
        long price = treePrice(size(x.root));
        Knot met = goAndTurn(x, key);
        if (met != null) {
            found(met.key, met.values.remove(0));
            if (met.values.isEmpty()) {
                if (x.kind == 1) {
                    removeRoot(x);
                } else {
                    x.root = removedPlain(x.root, key);
                }
            }
        }
        close(s, price);
        return met == null ? 0 : 1;
    }

    private void removeRoot(Thing x) {
        Knot left = x.root.left;
        Knot right = x.root.right;
        if (left == null) {
            x.root = right;
            return;
        }
        x.root = left;
        turnUpIn(x, wayRight(left));
        x.root.right = right;
    }

    private Knot removedPlain(Knot here, long key) {
        if (key < here.key) {
            here.left = removedPlain(here.left, key);
            return here;
        }
        if (key > here.key) {
            here.right = removedPlain(here.right, key);
            return here;
        }
        if (here.left == null) {
            return here.right;
        }
        if (here.right == null) {
            return here.left;
        }
        actSteps++;
        List<Knot> way = wayRight(here.left);
        Knot heir = way.get(way.size() - 1);
        if (way.size() == 1) {
            here.left = heir.left;
        } else {
            way.get(way.size() - 2).right = heir.left;
        }
        here.key = heir.key;
        here.values = heir.values;
        return here;
    }

    int below(int s, long key) {
        return beside(s, key, false);
    }

    int above(int s, long key) {
        return beside(s, key, true);
    }

    private int beside(int s, long key, boolean above) {
        int refusal = treeAct(s);
        if (refusal != 0) {
            return refusal;
        }
        Thing x = things.get(s);
        long price = treePrice(size(x.root));
        List<Knot> all = new ArrayList<>();
        number(x.root, all);
        Knot best = null;
        for (Knot k : all) {
            boolean fits = above ? k.key > key : k.key < key;
            if (fits && (best == null || (above ? k.key < best.key : k.key > best.key))) {
                best = k;
            }
        }
        goBeside(x, key, above);
        if (best != null) {
            found(best.key, best.values.get(0));
        }
        close(s, price);
        return best == null ? 0 : 1;
    }

    private void goBeside(Thing x, long key, boolean above) {
        List<Knot> way = new ArrayList<>();
        for (Knot k = x.root; k != null; ) {
            way.add(k);
            boolean right = above ? !(k.key > key) : k.key < key;
            k = right ? k.right : k.left;
        }
        actSteps += Math.max(0, way.size() - 1);
        turnUpIn(x, way);
    }

    int split(int s, long key) {
        if (none(s)) {
            return NONE;
        }
        Thing x = things.get(s);
        if (x.kind != 1) {
            return KIND;
        }
        if (things.size() == 40 || rows.size() == 20000) {
            return FULL;
        }
        long price = treePrice(size(x.root));
        goBeside(x, key, false);
        Thing y = new Thing();
        y.kind = 1;
        if (x.root != null && x.root.key < key) {
            y.root = x.root.right;
            x.root.right = null;
        } else if (x.root != null) {
            y.root = x.root;
            x.root = y.root.left;
            y.root.left = null;
        }
        y.purse = potential(y);
        x.purse -= y.purse;
        things.add(y);
        close(s, price);
        return things.size() - 1;
    }

    int join(int s, int t) {
        int refusal = joinRefusal(s, t);
        if (refusal != 0) {
            return refusal;
        }
        Thing x = things.get(s);
        Thing y = things.get(t);
        List<Knot> ofX = new ArrayList<>();
        List<Knot> ofY = new ArrayList<>();
        number(x.root, ofX);
        number(y.root, ofY);
        for (Knot a : ofX) {
            for (Knot b : ofY) {
                if (a.key >= b.key) {
                    return ORDER;
                }
            }
        }
        if (rows.size() == 20000) {
            return FULL;
        }
        long price = treePrice(size(x.root) + size(y.root));
        if (x.root == null) {
            x.root = y.root;
        } else {
            turnUpIn(x, wayRight(x.root));
            x.root.right = y.root;
        }
        y.root = null;
        x.purse += y.purse;
        y.purse = 0;
        close(s, price);
        return size(x.root);
    }

    private int joinRefusal(int s, int t) {
        if (none(s) || none(t)) {
            return NONE;
        }
        return things.get(s).kind != 1 || things.get(t).kind != 1 || s == t ? KIND : 0;
    }

    int pop(int s) {
        if (none(s)) {
            return NONE;
        }
        Thing x = things.get(s);
        if (!isHeap(x)) {
            return KIND;
        }
        if (x.root == null) {
            return EMPTY;
        }
        if (rows.size() == 20000) {
            return FULL;
        }
        long price = heapPrice(size(x.root.left), size(x.root.right));
        found(x.root.key, x.root.values.get(0));
        x.root = melded(x.kind, x.root.left, x.root.right);
        close(s, price);
        return size(x.root);
    }

    int meld(int s, int t) {
        int refusal = meldRefusal(s, t);
        if (refusal != 0) {
            return refusal;
        }
        if (rows.size() == 20000) {
            return FULL;
        }
        Thing x = things.get(s);
        Thing y = things.get(t);
        long price = heapPrice(size(x.root), size(y.root));
        x.root = melded(x.kind, x.root, y.root);
        y.root = null;
        x.purse += y.purse;
        y.purse = 0;
        close(s, price);
        return size(x.root);
    }

    private int meldRefusal(int s, int t) {
        if (none(s) || none(t)) {
            return NONE;
        }
        boolean fit = isHeap(things.get(s)) && things.get(s).kind == things.get(t).kind && s != t;
        return fit ? 0 : KIND;
    }

    int push(int s, long v) {
        if (none(s)) {
            return NONE;
        }
        if (!isRow(things.get(s))) {
            return KIND;
        }
        return entries() == 20000 || rows.size() == 20000 ? FULL : doPush(s, v);
    }

    private int doPush(int s, long v) {
        Thing x = things.get(s);
        if (x.numbers.size() == x.places) {
            actSteps += x.places;
            x.places *= 2;
        }
        x.numbers.add(v);
        actSteps++;
        close(s, 3);
        return x.numbers.size();
    }

    int pull(int s) {
        if (none(s)) {
            return NONE;
        }
        Thing x = things.get(s);
        if (!isRow(x)) {
            return KIND;
        }
        if (x.numbers.isEmpty()) {
            return EMPTY;
        }
        if (rows.size() == 20000) {
            return FULL;
        }
        found(x.numbers.remove(x.numbers.size() - 1), 0);
        actSteps++;
        if (x.kind == 5 && x.places > 4 && x.numbers.size() == x.places / 4) {
            actSteps += x.numbers.size();
            x.places /= 2;
        }
        close(s, 3);
        return x.numbers.size();
    }

    long at(int s, int i) {
        boolean there = !none(s) && i >= 0 && i < things.get(s).numbers.size();
        return there ? things.get(s).numbers.get(i) : 0;
    }

    long foundKey() {
        return foundKey;
    }

    int foundValue() {
        return foundValue;
    }

    int about(int s, int what) {
        if (none(s) || what < 0 || what > 7) {
            return NONE;
        }
        Thing x = things.get(s);
        long[] answers = {x.kind, held(x), entriesOf(x), x.places, potential(x), x.purse, x.steps,
            Math.max(0, height(x.root) - 1)};
        return (int) answers[what];
    }

    int price(int how, int s, int t) {
        if (none(s) || how < 0 || how > 4) {
            return NONE;
        }
        Thing x = things.get(s);
        boolean tree = !isHeap(x) && !isRow(x);
        if (how == 0) {
            return tree ? (int) treePrice(size(x.root)) : KIND;
        }
        if (how == 1 || how == 4) {
            int refusal = how == 1 ? joinRefusal(s, t) : meldRefusal(s, t);
            if (refusal != 0) {
                return refusal;
            }
            int a = size(x.root);
            int b = size(things.get(t).root);
            return (int) (how == 1 ? treePrice(a + b) : heapPrice(a, b));
        }
        if (tree) {
            return KIND;
        }
        if (how == 3 && held(x) == 0) {
            return EMPTY;
        }
        if (isRow(x)) {
            return 3;
        }
        return (int) (how == 2 ? heapPrice(size(x.root), 1)
            : heapPrice(size(x.root.left), size(x.root.right)));
    }

    int node(int s, int i, int what) {
        if (none(s) || what < 0 || what > 4) {
            return NONE;
        }
        Thing x = things.get(s);
        if (isRow(x)) {
            return KIND;
        }
        List<Knot> all = new ArrayList<>();
        number(x.root, all);
        if (i < 0 || i >= all.size()) {
            return NONE;
        }
        Knot k = all.get(i);
        switch (what) {
            case 0: return depthOf(x.root, k);
            case 1: return size(k);
            case 2: return (k.left != null ? 1 : 0) + (k.right != null ? 2 : 0);
            case 3: return k.values.size();
            default: return k.values.get(0);
        }
    }

    long nodeKey(int s, int i) {
        List<Knot> all = new ArrayList<>();
        number(none(s) ? null : things.get(s).root, all);
        return i < 0 || i >= all.size() ? 0 : all.get(i).key;
    }

    int ledger(int i, int what) {
        boolean there = i >= 0 && i < rows.size() && what >= 0 && what <= 3;
        return there ? (int) rows.get(i)[what] : NONE;
    }

    int spread(int n) {
        if (n < 1 || n > rows.size()) {
            return NONE;
        }
        long most = -1;
        int best = NONE;
        for (int i = 0; i + n <= rows.size(); i++) {
            long sum = 0;
            for (int k = i; k < i + n; k++) {
                sum += rows.get(k)[2];
            }
            if (sum > most) {
                most = sum;
                best = i;
            }
        }
        return best;
    }

    int count(int what) {
        switch (what) {
            case 0: return things.size();
            case 1: return entries();
            case 2: return rows.size();
            default: return NONE;
        }
    }

    // ---- helpers ----

    private boolean none(int s) {
        return s < 0 || s >= things.size();
    }

    private static boolean isHeap(Thing x) {
        return x.kind == 2 || x.kind == 3;
    }

    private static boolean isRow(Thing x) {
        return x.kind == 4 || x.kind == 5;
    }

    private int treeAct(int s) {
        if (none(s)) {
            return NONE;
        }
        if (things.get(s).kind > 1) {
            return KIND;
        }
        return rows.size() == 20000 ? FULL : 0;
    }

    private void found(long key, int value) {
        foundKey = key;
        foundValue = value;
    }

    private void close(int s, long price) {
        Thing x = things.get(s);
        x.purse += price - actSteps;
        x.steps += actSteps;
        rows.add(new long[] {s, price, actSteps, potential(x)});
        actSteps = 0;
    }

    private int entries() {
        int sum = 0;
        for (Thing x : things) {
            sum += entriesOf(x);
        }
        return sum;
    }

    private static int entriesOf(Thing x) {
        return isRow(x) ? x.numbers.size() : valuesIn(x.root);
    }

    private static int valuesIn(Knot k) {
        return k == null ? 0 : valuesIn(k.left) + valuesIn(k.right) + k.values.size();
    }

    private static int held(Thing x) {
        return isRow(x) ? x.numbers.size() : size(x.root);
    }

    private static int size(Knot k) {
        return k == null ? 0 : size(k.left) + size(k.right) + 1;
    }

    private static int height(Knot k) {
        return k == null ? 0 : Math.max(height(k.left), height(k.right)) + 1;
    }

    private static int lg(int n) {
        int r = 0;
        while ((2L << r) <= n) {
            r++;
        }
        return r;
    }

    private static long treePrice(int n) {
        return 24 * lg(n + 1) + 24;
    }

    private static long heapPrice(int a, int b) {
        return 2 * (lg(Math.max(1, a)) + lg(Math.max(1, b)) + 2);
    }

    private static int depthOf(Knot from, Knot wanted) {
        if (from == null) {
            return -1;
        }
        if (from == wanted) {
            return 0;
        }
        int below = Math.max(depthOf(from.left, wanted), depthOf(from.right, wanted));
        return below < 0 ? -1 : below + 1;
    }

    private static void number(Knot k, List<Knot> all) {
        if (k != null) {
            all.add(k);
            number(k.left, all);
            number(k.right, all);
        }
    }

    private long potential(Thing x) {
        long[] sum = new long[1];
        switch (x.kind) {
            case 0: return 0;
            case 1: sumOfLgs(x.root, sum); return 3 * sum[0];
            case 2:
            case 3: heavyRights(x.root, sum); return sum[0];
            default:
                int taken = x.numbers.size();
                if (x.kind == 5 && 2 * taken < x.places) {
                    return x.places / 2 - taken;
                }
                return 2 * Math.max(0, taken - x.places / 2);
        }
    }

    private static int sumOfLgs(Knot k, long[] sum) {
        if (k == null) {
            return 0;
        }
        int size = sumOfLgs(k.left, sum) + sumOfLgs(k.right, sum) + 1;
        sum[0] += lg(size);
        return size;
    }

    private static int heavyRights(Knot k, long[] sum) {
        if (k == null) {
            return 0;
        }
        int left = heavyRights(k.left, sum);
        int right = heavyRights(k.right, sum);
        if (2 * right > left + right + 1) {
            sum[0]++;
        }
        return left + right + 1;
    }

    private Knot melded(int kind, Knot a, Knot b) {
        if (a == null) {
            return b;
        }
        if (b == null) {
            return a;
        }
        int order = Long.compare(a.key, b.key) * (kind == 3 ? -1 : 1);
        boolean aFirst = order < 0 || order == 0 && a.came < b.came;
        Knot root = aFirst ? a : b;
        Knot other = aFirst ? b : a;
        actSteps++;
        Knot was = root.left;
        root.left = melded(kind, root.right, other);
        root.right = was;
        return root;
    }

    private static List<Knot> wayTo(Knot root, long key) {
        List<Knot> way = new ArrayList<>();
        Knot k = root;
        while (k != null) {
            way.add(k);
            k = key == k.key ? null : key < k.key ? k.left : k.right;
        }
        return way;
    }

    private List<Knot> wayRight(Knot from) {
        List<Knot> way = new ArrayList<>();
        for (Knot k = from; k != null; k = k.right) {
            way.add(k);
        }
        actSteps += way.size() - 1;
        return way;
    }

    private Knot goAndTurn(Thing x, long key) {
        List<Knot> way = wayTo(x.root, key);
        if (way.isEmpty()) {
            return null;
        }
        Knot last = way.get(way.size() - 1);
        actSteps += way.size() - 1;
        turnUpIn(x, way);
        return last.key == key ? last : null;
    }

    private void turnUpIn(Thing x, List<Knot> way) {
        if (x.kind != 1 || way.isEmpty()) {
            return;
        }
        top = x.root;
        while (way.size() > 1) {
            int n = way.size() - 1;
            actSteps++;
            if (n == 1) {
                turnOver(way, 1);
                continue;
            }
            boolean parentLeft = way.get(n - 2).left == way.get(n - 1);
            boolean nodeLeft = way.get(n - 1).left == way.get(n);
            turnOver(way, parentLeft == nodeLeft ? n - 1 : n);
            turnOver(way, n - 1);
        }
        x.root = top;
    }

    /** Turns the node at place i of the way over the one ahead of it, which leaves the way. */
    private void turnOver(List<Knot> way, int i) {
        Knot node = way.get(i);
        Knot parent = way.get(i - 1);
        if (parent.left == node) {
            parent.left = node.right;
            node.right = parent;
        } else {
            parent.right = node.left;
            node.left = parent;
        }
        if (i == 1) {
            top = node;
        } else if (way.get(i - 2).left == parent) {
            way.get(i - 2).left = node;
        } else {
            way.get(i - 2).right = node;
        }
        way.remove(i - 1);
    }
}
