/** A StepPurse that is asked 512 calls at most: what it answers later is free, so no test asks. */
final class Counted {
    static final int MOST_CALLS = 512;
    private final StepPurse purse = new StepPurse();
    private int left = MOST_CALLS;

    /** How many calls may still be made. */
    int left() {
        return left;
    }

    private StepPurse asked() {
        if (left == 0) {
            throw new IllegalStateException("a test makes more than 512 calls of one object");
        }
        left--;
        return purse;
    }

    int make(int kind) {
        return asked().make(kind);
    }

    int insert(int s, long key, int value) {
        return asked().insert(s, key, value);
    }

    int rise(int s, long key, int n) {
        return asked().rise(s, key, n);
    }

    int find(int s, long key) {
        return asked().find(s, key);
    }

    int drop(int s, long key) {
        return asked().drop(s, key);
    }

    int below(int s, long key) {
        return asked().below(s, key);
    }

    int above(int s, long key) {
        return asked().above(s, key);
    }

    int split(int s, long key) {
        return asked().split(s, key);
    }

    int join(int s, int t) {
        return asked().join(s, t);
    }

    int pop(int s) {
        return asked().pop(s);
    }

    int meld(int s, int t) {
        return asked().meld(s, t);
    }

    int push(int s, long v) {
        return asked().push(s, v);
    }

    int pull(int s) {
        return asked().pull(s);
    }

    long at(int s, int i) {
        return asked().at(s, i);
    }

    long foundKey() {
        return asked().foundKey();
    }

    int foundValue() {
        return asked().foundValue();
    }

    int about(int s, int what) {
        return asked().about(s, what);
    }

    int price(int how, int s, int t) {
        return asked().price(how, s, t);
    }

    int node(int s, int i, int what) {
        return asked().node(s, i, what);
    }

    long nodeKey(int s, int i) {
        return asked().nodeKey(s, i);
    }

    int ledger(int i, int what) {
        return asked().ledger(i, what);
    }

    int spread(int n) {
        return asked().spread(n);
    }

    int count(int what) {
        return asked().count(what);
    }
}
