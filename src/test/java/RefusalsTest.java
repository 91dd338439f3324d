import java.util.ArrayList;
import java.util.List;

/** REFUSALS: which call is refused by what, which refusal is first, and that nothing changes. */
public final class RefusalsTest extends Bench {
    /** A call with its refusal. */
    private interface Call {
        long on(Counted x);
    }

    /** What is done with a new object ahead of a call. */
    private interface Start {
        void on(Counted x);
    }

    private static final int[] KINDS = {PLAIN, TURNING, SKEW, UPWARD, DOUBLING, GAPPED, TURNING, SKEW};
    private static final int HELD = 4;

    public static void main(String[] args) {
        constants();
        noSuchStructure();
        noSuchSecond();
        otherKinds();
        pairsOfKinds();
        emptyOnes();
        noneIsFirst();
        kindIsAheadOfEmptyAndOrder();
        kindIsAheadOfFull();
        emptyAndOrderAreAheadOfFull();
        nothingIsChangedByNone();
        nothingIsChangedByKind();
        nothingIsChangedByEmptyAndOrder();
        nothingIsChangedByFullLedger();
        nothingIsChangedByForty();
        CHECKS.end();
    }

    private static void constants() {
        sentence("NONE = -1, KIND = -2, EMPTY = -3, ORDER = -4, FULL = -5");
        due("NONE", StepPurse.NONE, NONE);
        due("KIND", StepPurse.KIND, KIND);
        due("EMPTY", StepPurse.EMPTY, EMPTY);
        due("ORDER", StepPurse.ORDER, ORDER);
        due("FULL", StepPurse.FULL, FULL);
    }

    private static void noSuchStructure() {
        sentence("NONE (-1): no such structure");
        for (int s : new int[] {-1, 6, 39, 40, Integer.MIN_VALUE, Integer.MAX_VALUE}) {
            Counted x = of(PLAIN, TURNING, SKEW, UPWARD, DOUBLING, GAPPED);
            due("insert " + s, x.insert(s, 1, 1), NONE);
            due("rise " + s, x.rise(s, 1, 1), NONE);
            due("find " + s, x.find(s, 1), NONE);
            due("drop " + s, x.drop(s, 1), NONE);
            due("below " + s, x.below(s, 1), NONE);
            due("above " + s, x.above(s, 1), NONE);
            due("split " + s, x.split(s, 1), NONE);
            due("join " + s, x.join(s, 1), NONE);
            due("pop " + s, x.pop(s), NONE);
            due("meld " + s, x.meld(s, 2), NONE);
            due("push " + s, x.push(s, 1), NONE);
            due("pull " + s, x.pull(s), NONE);
            due("about " + s, x.about(s, 0), NONE);
            due("node " + s, x.node(s, 0, 0), NONE);
            due("price " + s, x.price(0, s, 0), NONE);
            due("none is an act", x.count(2), 0);
        }
    }

    private static void noSuchSecond() {
        sentence("NONE (-1): no such structure: the second of two");
        for (int t : new int[] {-1, 6, 39, 40, Integer.MIN_VALUE, Integer.MAX_VALUE}) {
            Counted x = of(PLAIN, TURNING, SKEW, UPWARD, DOUBLING, GAPPED);
            for (int s = 0; s < 6; s++) {
                due("join " + s + " " + t, x.join(s, t), NONE);
                due("meld " + s + " " + t, x.meld(s, t), NONE);
                due("join " + t + " " + s, x.join(t, s), NONE);
                due("meld " + t + " " + s, x.meld(t, s), NONE);
            }
            due("both", x.join(t, t), NONE);
            due("both", x.meld(t, t), NONE);
        }
    }

    private static void otherKinds() {
        sentence("KIND (-2): the call is for other kinds");
        for (int s = 0; s < 6; s++) {
            Counted x = of(PLAIN, TURNING, SKEW, UPWARD, DOUBLING, GAPPED);
            boolean tree = s < 2;
            boolean heap = s == 2 || s == 3;
            boolean row = s > 3;
            due("insert " + s, x.insert(s, 1, 1), row ? KIND : 1);
            due("find " + s, x.find(s, 1), tree ? 1 : KIND);
            due("below " + s, x.below(s, 2), tree ? 1 : KIND);
            due("above " + s, x.above(s, 0), tree ? 1 : KIND);
            due("drop " + s, x.drop(s, 1), tree ? 1 : KIND);
            due("split " + s, x.split(s, 1), s == TURNING ? 6 : KIND);
            due("pop " + s, x.pop(s), heap ? 0 : KIND);
            due("push " + s, x.push(s, 1), row ? 1 : KIND);
            due("pull " + s, x.pull(s), row ? 0 : KIND);
            due("rise is for all " + s, x.rise(s, 1, 1), 1);
        }
    }

    private static void pairsOfKinds() {
        sentence("KIND (-2): or the two are of different kinds (or one and the same)");
        Counted x = of(PLAIN, TURNING, SKEW, UPWARD, DOUBLING, GAPPED, PLAIN, TURNING, SKEW, UPWARD,
            DOUBLING, GAPPED);
        for (int s = 0; s < 12; s++) {
            for (int t = 0; t < 12; t++) {
                boolean alike = s % 6 == t % 6 && s != t;
                boolean heaps = alike && (s % 6 == SKEW || s % 6 == UPWARD);
                due("join " + s + " " + t, x.join(s, t), alike && s % 6 == TURNING ? 0 : KIND);
                due("meld " + s + " " + t, x.meld(s, t), heaps ? 0 : KIND);
            }
        }
        x = of(TURNING, SKEW);
        x.rise(0, 1, 3);
        x.rise(1, 1, 3);
        due("one and the same, with nodes", x.join(0, 0), KIND);
        due("one and the same, with nodes", x.meld(1, 1), KIND);
    }

    private static void emptyOnes() {
        sentence("EMPTY (-3): there is nothing in it");
        Counted x = of(SKEW, UPWARD, DOUBLING, GAPPED);
        for (int s = 0; s < 4; s++) {
            due("new", s < 2 ? x.pop(s) : x.pull(s), EMPTY);
            due("price", x.price(3, s, 0), EMPTY);
            x.rise(s, 1, 1);
            due("one", s < 2 ? x.pop(s) : x.pull(s), 0);
            due("gone", s < 2 ? x.pop(s) : x.pull(s), EMPTY);
            due("price", x.price(3, s, 0), EMPTY);
        }
    }

    private static Counted full() {
        Counted x = of(KINDS);
        for (int s : new int[] {PLAIN, TURNING, SKEW, GAPPED, 6}) {
            x.rise(s, 1, HELD);
        }
        x.find(TURNING, 2);
        fillLedger(x, DOUBLING, 0);
        return x;
    }

    private static void noneIsFirst() {
        sentence("REFUSALS, the first that holds: NONE ahead of all");
        Counted x = full();
        due("insert", x.insert(8, 1, 1), NONE);
        due("rise", x.rise(8, 1, 1), NONE);
        due("rise 2001", x.rise(0, 1, 2001), NONE);
        due("find", x.find(-1, 1), NONE);
        due("drop", x.drop(8, 1), NONE);
        due("below", x.below(8, 1), NONE);
        due("above", x.above(8, 1), NONE);
        due("split", x.split(8, 1), NONE);
        due("join", x.join(8, 1), NONE);
        due("join of a heap", x.join(SKEW, 8), NONE);
        due("pop", x.pop(8), NONE);
        due("meld", x.meld(8, 2), NONE);
        due("meld of a tree", x.meld(TURNING, 8), NONE);
        due("push", x.push(8, 1), NONE);
        due("pull", x.pull(8), NONE);
        x = new Counted();
        for (int i = 0; i < 40; i++) {
            x.make(i % 6);
        }
        due("make of no kind", x.make(6), NONE);
        due("make of no kind", x.make(-1), NONE);
        due("split of none", x.split(40, 1), NONE);
        due("price of a wrong how and kind", x.price(5, 0, 0), NONE);
        due("price of a wrong kind and second", x.price(1, 4, 40), NONE);
    }

    private static void kindIsAheadOfEmptyAndOrder() {
        sentence("REFUSALS, the first that holds: KIND ahead of EMPTY and ORDER");
        Counted x = of(PLAIN, TURNING, SKEW, UPWARD, DOUBLING, GAPPED, PLAIN);
        for (int s = 0; s < 6; s++) {
            due("pop of an empty one", x.pop(s), s == SKEW || s == UPWARD ? EMPTY : KIND);
            due("pull of an empty one", x.pull(s), s > 3 ? EMPTY : KIND);
            due("price of an empty one", x.price(3, s, 0), s > 1 ? EMPTY : KIND);
        }
        for (int s : new int[] {PLAIN, TURNING, 6}) {
            x.rise(s, 1, 3);
        }
        due("plain ones out of order", x.join(0, 6), KIND);
        due("plain and turning out of order", x.join(0, 1), KIND);
        due("turning and plain out of order", x.join(1, 0), KIND);
        due("with itself", x.join(1, 1), KIND);
    }

    private static void kindIsAheadOfFull() {
        sentence("REFUSALS, the first that holds: KIND ahead of FULL");
        Counted x = full();
        for (int s = 0; s < 6; s++) {
            boolean heap = s == SKEW || s == UPWARD;
            due("insert", x.insert(s, 1, 1), s > 3 ? KIND : FULL);
            due("find", x.find(s, 1), s > 1 ? KIND : FULL);
            due("drop", x.drop(s, 1), s > 1 ? KIND : FULL);
            due("below", x.below(s, 1), s > 1 ? KIND : FULL);
            due("above", x.above(s, 1), s > 1 ? KIND : FULL);
            due("split", x.split(s, 1), s != TURNING ? KIND : FULL);
            due("push", x.push(s, 1), s < 4 ? KIND : FULL);
            due("pop", x.pop(s), !heap ? KIND : s == SKEW ? FULL : EMPTY);
            due("pull", x.pull(s), s < 4 ? KIND : FULL);
            due("join", x.join(s, 6), s != TURNING ? KIND : ORDER);
            due("meld", x.meld(s, 7), s != SKEW ? KIND : FULL);
        }
        x = new Counted();
        for (int i = 0; i < 40; i++) {
            x.make(i % 6);
        }
        for (int s = 0; s < 6; s++) {
            due("split of 40", x.split(s, 1), s != TURNING ? KIND : FULL);
        }
    }

    private static void emptyAndOrderAreAheadOfFull() {
        sentence("REFUSALS, the first that holds: EMPTY and ORDER ahead of FULL");
        Counted x = of(DOUBLING, SKEW, GAPPED, TURNING, TURNING, TURNING);
        x.rise(3, 1, 3);
        x.rise(4, 3, 3);
        fillLedger(x, 0, 0);
        due("pop", x.pop(1), EMPTY);
        due("pull", x.pull(2), EMPTY);
        due("pull", x.pull(0), FULL);
        due("join", x.join(3, 4), ORDER);
        due("join", x.join(4, 3), ORDER);
        due("join with an empty one", x.join(3, 5), FULL);
        due("join of an empty one", x.join(5, 3), FULL);
    }

    private static Counted started(Start start) {
        Counted x = new Counted();
        start.on(x);
        return x;
    }

    /** All that can be seen of the first eight structures, the accounts, and what is FOUND. */
    private static List<Long> seen(Counted x) {
        List<Long> all = new ArrayList<>();
        for (int what = 0; what < 3; what++) {
            all.add((long) x.count(what));
        }
        all.add(x.foundKey());
        all.add((long) x.foundValue());
        all.add((long) x.spread(1));
        for (int what = 0; what < 4; what++) {
            all.add((long) x.ledger(x.count(2) - 1, what));
        }
        for (int s = 0; s < 8; s++) {
            for (int what = 1; what < 8; what++) {
                all.add((long) x.about(s, what));
            }
            for (int i = 0; i <= HELD; i++) {
                all.add(x.nodeKey(s, i));
                all.add(x.at(s, i));
                all.add((long) x.node(s, i, 2));
                all.add((long) x.node(s, i, 3));
            }
        }
        return all;
    }

    private static void unchanged(String what, Start start, long refusal, Call call) {
        Counted refused = started(start);
        due(what, call.on(refused), refusal);
        CHECKS.holds(what + " changes nothing", seen(refused).equals(seen(started(start))));
    }

    private static void some(Counted x) {
        for (int kind : KINDS) {
            x.make(kind);
        }
        for (int s = 0; s < 6; s++) {
            x.rise(s, 1, HELD);
        }
        x.rise(6, HELD, HELD);
        x.find(TURNING, 2);
    }

    private static void nothingIsChangedByNone() {
        sentence("A refused call changes nothing: NONE");
        Start start = RefusalsTest::some;
        unchanged("make", start, NONE, x -> x.make(6));
        unchanged("insert", start, NONE, x -> x.insert(8, 1, 1));
        unchanged("rise", start, NONE, x -> x.rise(8, 1, 1));
        unchanged("rise 0", start, NONE, x -> x.rise(0, 1, 0));
        unchanged("rise 2001", start, NONE, x -> x.rise(0, 1, 2001));
        unchanged("find", start, NONE, x -> x.find(8, 1));
        unchanged("drop", start, NONE, x -> x.drop(8, 1));
        unchanged("below", start, NONE, x -> x.below(8, 1));
        unchanged("above", start, NONE, x -> x.above(8, 1));
        unchanged("split", start, NONE, x -> x.split(8, 1));
        unchanged("join", start, NONE, x -> x.join(1, 8));
        unchanged("pop", start, NONE, x -> x.pop(8));
        unchanged("meld", start, NONE, x -> x.meld(2, 8));
        unchanged("push", start, NONE, x -> x.push(8, 1));
        unchanged("pull", start, NONE, x -> x.pull(8));
        unchanged("about", start, NONE, x -> x.about(0, 8));
        unchanged("price", start, NONE, x -> x.price(5, 0, 0));
        unchanged("node", start, NONE, x -> x.node(0, 9, 0));
        unchanged("ledger", start, NONE, x -> x.ledger(99, 0));
        unchanged("spread", start, NONE, x -> x.spread(99));
        unchanged("count", start, NONE, x -> x.count(3));
    }

    private static void nothingIsChangedByKind() {
        sentence("A refused call changes nothing: KIND");
        Start start = RefusalsTest::some;
        for (int s = 0; s < 6; s++) {
            int at = s;
            if (s > 3) {
                unchanged("insert", start, KIND, x -> x.insert(at, 1, 1));
                unchanged("node", start, KIND, x -> x.node(at, 0, 0));
            } else {
                unchanged("push", start, KIND, x -> x.push(at, 1));
                unchanged("pull", start, KIND, x -> x.pull(at));
            }
            if (s > 1) {
                unchanged("find", start, KIND, x -> x.find(at, 1));
                unchanged("drop", start, KIND, x -> x.drop(at, 1));
                unchanged("below", start, KIND, x -> x.below(at, 3));
                unchanged("above", start, KIND, x -> x.above(at, 1));
            }
            if (s != TURNING) {
                unchanged("split", start, KIND, x -> x.split(at, 3));
                unchanged("join", start, KIND, x -> x.join(at, 6));
                unchanged("join", start, KIND, x -> x.join(6, at));
            }
            if (s != SKEW) {
                unchanged("meld", start, KIND, x -> x.meld(at, 7));
                unchanged("meld", start, KIND, x -> x.meld(7, at));
            }
            if (s != SKEW && s != UPWARD) {
                unchanged("pop", start, KIND, x -> x.pop(at));
            }
            unchanged("join with itself", start, KIND, x -> x.join(at, at));
            unchanged("meld with itself", start, KIND, x -> x.meld(at, at));
        }
    }

    private static void nothingIsChangedByEmptyAndOrder() {
        sentence("A refused call changes nothing: EMPTY, ORDER");
        unchanged("pop", RefusalsTest::some, EMPTY, x -> x.pop(7));
        unchanged("pull", x -> {
            some(x);
            x.rise(GAPPED, 1, 1);
            for (int i = 0; i <= HELD; i++) {
                x.pull(GAPPED);
            }
        }, EMPTY, x -> x.pull(GAPPED));
        unchanged("join", RefusalsTest::some, ORDER, x -> x.join(1, 6));
        unchanged("join", RefusalsTest::some, ORDER, x -> x.join(6, 1));
    }

    private static void nothingIsChangedByFullLedger() {
        sentence("A refused call changes nothing: FULL (ledger, entries)");
        Start start = x -> {
            some(x);
            x.drop(6, HELD);
            fillLedger(x, DOUBLING, 0);
        };
        for (int s = 0; s < 4; s++) {
            int at = s;
            unchanged("insert", start, FULL, x -> x.insert(at, 1, 1));
            unchanged("insert", start, FULL, x -> x.insert(at, 99, 1));
        }
        for (int s = 0; s < 6; s++) {
            int at = s;
            unchanged("rise", start, 0, x -> x.rise(at, 1, 3));
        }
        for (int s = 0; s < 2; s++) {
            int at = s;
            unchanged("find", start, FULL, x -> x.find(at, 1));
            unchanged("drop", start, FULL, x -> x.drop(at, 1));
            unchanged("below", start, FULL, x -> x.below(at, 3));
            unchanged("above", start, FULL, x -> x.above(at, 1));
        }
        unchanged("split", start, FULL, x -> x.split(1, 3));
        unchanged("join", start, FULL, x -> x.join(1, 6));
        unchanged("pop", start, FULL, x -> x.pop(2));
        unchanged("pop", start, FULL, x -> x.pop(3));
        unchanged("meld", start, FULL, x -> x.meld(2, 7));
        unchanged("meld", start, FULL, x -> x.meld(7, 2));
        unchanged("push", start, FULL, x -> x.push(4, 1));
        unchanged("push", start, FULL, x -> x.push(5, 1));
        unchanged("pull", start, FULL, x -> x.pull(4));
        unchanged("pull", start, FULL, x -> x.pull(5));
    }

    private static void nothingIsChangedByForty() {
        sentence("A refused call changes nothing: FULL (structures)");
        Start start = x -> {
            some(x);
            for (int i = KINDS.length; i < 40; i++) {
                x.make(i % 6);
            }
        };
        unchanged("make", start, FULL, x -> x.make(5));
        unchanged("split", start, FULL, x -> x.split(TURNING, 3));
    }
}
