/** What 'Terms' says of structures, acts, purses, the LEDGER and what is FOUND, at the edges. */
public final class AccountEdgesTest extends Bench {
    public static void main(String[] args) {
        callsOfAnObject();
        numbersOfStructures();
        noneGoes();
        entriesOfAllTogether();
        roomThatIsFreedLeavesTheLedgerFull();
        everyActHasARow();
        vainActsHaveARow();
        othersHaveNoRow();
        purseAtFirst();
        purseOfEachAct();
        purseBelowZero();
        pursesBehindASplit();
        pursesBehindAJoin();
        pursesBehindAMeld();
        ledgerIsFull();
        foundAtFirst();
        foundByEach();
        foundStays();
        CHECKS.end();
    }

    private static void callsOfAnObject() {
        sentence("An object is used for at most 512 calls after it has been made");
        Counted x = of(DOUBLING);
        for (int i = 1; i < Counted.MOST_CALLS - 1; i++) {
            due("push", x.push(0, i), i);
        }
        due("one is left", x.left(), 1);
        due("the 512th call", x.about(0, 1), Counted.MOST_CALLS - 2);
    }

    private static void numbersOfStructures() {
        sentence("STRUCTURES have the numbers 0 .. 39, as they were made");
        Counted x = new Counted();
        for (int i = 0; i < 40; i++) {
            due("not yet", x.about(i, 0), NONE);
            due("make", x.make(5 - i % 6), i);
            due("its kind", x.about(i, 0), 5 - i % 6);
        }
        due("no number 40", x.about(40, 0), NONE);
        due("no number -1", x.about(-1, 0), NONE);
        due("the first is as it was", x.about(0, 0), 5);
        due("the last is used as others", x.insert(39, 1, 1), 1);
        x = of(TURNING);
        for (int i = 1; i < 40; i += 2) {
            due("by split", x.split(0, i), i);
            due("by make", x.make(GAPPED), i + 1 < 40 ? i + 1 : FULL);
        }
    }

    private static void noneGoes() {
        sentence("none goes");
        Counted x = of(TURNING, TURNING, SKEW, SKEW, GAPPED, PLAIN);
        x.join(0, 1);
        x.meld(2, 3);
        x.push(4, 1);
        x.pull(4);
        x.insert(5, 1, 1);
        x.drop(5, 1);
        due("all are there", x.count(0), 6);
        int[] kinds = {TURNING, TURNING, SKEW, SKEW, GAPPED, PLAIN};
        for (int s = 0; s < 6; s++) {
            due("kind of " + s, x.about(s, 0), kinds[s]);
            due("it takes more", x.rise(s, 1, 2), 2);
        }
        due("the next has the next number", x.make(PLAIN), 6);
    }

    private static void entriesOfAllTogether() {
        sentence("All structures together have at most 20000 entries and longs.");
        Counted x = of(PLAIN, TURNING, SKEW, UPWARD, DOUBLING, GAPPED);
        for (int i = 0; i < 9; i++) {
            due("rise", x.rise(i % 6, 0, 2000), 2000);
        }
        due("rise", x.rise(3, 0, 1994), 1994);
        for (int s = 0; s < 6; s++) {
            due("room for six", s < 4 ? Math.min(1, x.insert(s, 5, 5)) : Math.min(1, x.push(s, 5)), 1);
        }
        due("20000 are there", x.count(1), MOST);
        for (int s = 0; s < 6; s++) {
            due("no room", s < 4 ? x.insert(s, 5, 5) : x.push(s, 5), FULL);
            due("no room for one of a rise", x.rise(s, 5, 1), 0);
        }
        due("20000 still", x.count(1), MOST);
    }

    private static void roomThatIsFreedLeavesTheLedgerFull() {
        sentence("FULL (-5): there are 40 structures, 20000 entries, or 20000 rows in the LEDGER");
        Counted x = of(DOUBLING, PLAIN, SKEW);
        x.rise(1, 1, 4);
        x.rise(2, 1, 4);
        fillLedger(x, 0, 3);
        due("pull", x.pull(0), MOST - 8 - 3 - 1);
        due("drop", x.drop(1, 1), 1);
        due("pop", x.pop(2), 3);
        due("entries", x.count(1), MOST - 6);
        due("rows", x.count(2), MOST);
        due("no row for an insert", x.insert(1, 9, 9), FULL);
        due("no row for a push", x.push(0, 9), FULL);
        due("no row for a rise", x.rise(2, 9, 9), 0);
    }

    private static void everyActHasARow() {
        sentence("ACTS: insert, find, drop, below, above, split, join, pop, meld, push, pull that "
            + "are carried out, each of the n that rise stands for");
        Counted x = of(TURNING, TURNING, SKEW, SKEW, GAPPED);
        x.rise(0, 1, 4);
        rows(x, 4, 0);
        x.insert(0, 9, 9);
        rows(x, 5, 0);
        x.find(0, 3);
        rows(x, 6, 0);
        x.drop(0, 9);
        rows(x, 7, 0);
        x.below(0, 3);
        rows(x, 8, 0);
        x.above(0, 3);
        rows(x, 9, 0);
        due("split", x.split(0, 3), 5);
        rows(x, 10, 0);
        x.join(1, 5);
        rows(x, 11, 1);
        x.rise(3, 1, 3);
        rows(x, 14, 3);
        x.pop(3);
        rows(x, 15, 3);
        x.meld(2, 3);
        rows(x, 16, 2);
        x.push(4, 1);
        rows(x, 17, 4);
        x.pull(4);
        rows(x, 18, 4);
        x.rise(4, 1, 6);
        rows(x, 24, 4);
    }

    private static void rows(Counted x, int rows, int structure) {
        due("rows", x.count(2), rows);
        due("the latest one's structure", x.ledger(rows - 1, 0), structure);
        due("none behind it", x.ledger(rows, 0), NONE);
    }

    private static void vainActsHaveARow() {
        sentence("(also when nothing is met, or there is nothing to turn)");
        Counted x = of(PLAIN, TURNING, SKEW, SKEW, TURNING);
        int rows = 0;
        for (int s = 0; s < 2; s++) {
            x.find(s, 1);
            rows(x, ++rows, s);
            x.drop(s, 1);
            rows(x, ++rows, s);
            x.below(s, 1);
            rows(x, ++rows, s);
            x.above(s, 1);
            rows(x, ++rows, s);
        }
        x.split(1, 1);
        rows(x, ++rows, 1);
        x.join(1, 4);
        rows(x, ++rows, 1);
        x.meld(3, 2);
        rows(x, ++rows, 3);
    }

    private static void othersHaveNoRow() {
        sentence("ACTS: looking and making are none");
        Counted x = of(TURNING, SKEW, GAPPED);
        for (int s = 0; s < 3; s++) {
            x.rise(s, 1, 3);
        }
        x.make(PLAIN);
        x.at(2, 0);
        x.foundKey();
        x.foundValue();
        for (int what = 0; what < 8; what++) {
            x.about(0, what);
            x.node(0, 1, what);
            x.price(what, 0, 1);
            x.ledger(0, what);
            x.spread(what);
            x.count(what);
        }
        x.nodeKey(0, 2);
        due("rows", x.count(2), 9);
        keys("nothing is turned", x, 0, 3, 2, 1);
        due("steps", x.about(0, 6), 4);
    }

    private static void purseAtFirst() {
        sentence("A structure's PURSE begins as its potential");
        int[] potentials = {0, 0, 0, 0, 0, 2};
        Counted x = of(PLAIN, TURNING, SKEW, UPWARD, DOUBLING, GAPPED);
        for (int s = 0; s < 6; s++) {
            due("potential", x.about(s, 4), potentials[s]);
            due("purse", x.about(s, 5), potentials[s]);
            due("steps", x.about(s, 6), 0);
        }
    }

    private static void purseOfEachAct() {
        sentence("an act adds its PRICE to it and takes its STEPS");
        Counted x = of(TURNING, UPWARD, GAPPED);
        int[] purses = {0, 0, 2};
        int[] steps = new int[3];
        for (int i = 0; i < 30; i++) {
            int s = i % 3;
            if (i < 18) {
                x.rise(s, i * 7 % 10, 1);
            } else if (s == 0) {
                x.drop(0, i);
            } else {
                due("one goes", s == 1 ? x.pop(1) : x.pull(2), 5 - (i - 18) / 3);
            }
            purses[s] += x.ledger(i, 1) - x.ledger(i, 2);
            steps[s] += x.ledger(i, 2);
            due("purse", x.about(s, 5), purses[s]);
            due("steps", x.about(s, 6), steps[s]);
            due("potential in the ledger", x.ledger(i, 3), x.about(s, 4));
        }
    }

    private static void purseBelowZero() {
        sentence("though a single act may go through all that there is");
        Counted x = of(PLAIN);
        x.rise(0, 0, 367);
        due("63 are left", x.about(0, 5), 63);
        due("find", x.find(0, 280), 1);
        act("find", x, 0, 216, 280, 0);
        due("-1 is left", x.about(0, 5), -1);
        due("find", x.find(0, 366), 1);
        due("less is left", x.about(0, 5), -1 + 216 - 366);
    }

    private static void pursesBehindASplit() {
        sentence("Behind a split the new structure's purse is its potential, and that is taken "
            + "from the first one's");
        Counted x = of(TURNING);
        x.rise(0, 1, 5);
        // 24 + 48 + 48 + 72 + 72, and 8 steps: each but the first hung, and turned over the root.
        due("ahead", x.about(0, 5), 264 - 8);
        due("split", x.split(0, 3), 1);
        act("split", x, 0, 72, 3 + 2, 3);
        due("new one's potential", x.about(1, 4), 6);
        due("new one's purse", x.about(1, 5), 6);
        due("new one's steps", x.about(1, 6), 0);
        due("first one's purse", x.about(0, 5), 256 + 72 - 5 - 6);
        due("first one's steps", x.about(0, 6), 8 + 5);
        due("all go", x.split(0, LEAST), 2);
        due("first one keeps the rest", x.about(0, 5), 317 + 48 - 2 - 3);
        due("new one's purse", x.about(2, 5), 3);
        due("nothing goes", x.split(0, 0), 3);
        due("first one's purse", x.about(0, 5), 360 + 24);
        due("new one's purse", x.about(3, 5), 0);
    }

    private static void pursesBehindAJoin() {
        sentence("behind join and meld the first one has both purses together, the second 0");
        Counted x = of(TURNING, TURNING);
        x.rise(0, 1, 3);
        x.rise(1, 4, 2);
        due("first", x.about(0, 5), 24 + 48 + 48 - 4);
        due("second", x.about(1, 5), 24 + 48 - 2);
        due("join", x.join(0, 1), 5);
        due("both, and the act's", x.about(0, 5), 116 + 70 + 72);
        due("second", x.about(1, 5), 0);
        due("the first one's steps", x.about(0, 6), 4);
        due("the second one's stay with it", x.about(1, 6), 2);
        due("of an empty second", x.join(0, 1), 5);
        due("nothing comes", x.about(0, 5), 258 + 72 - 2);
        due("to an empty first", x.join(1, 0), 5);
        due("all comes", x.about(1, 5), 328 + 72);
        due("nothing is left", x.about(0, 5), 0);
    }

    private static void pursesBehindAMeld() {
        sentence("behind join and meld the first one has both purses together, the second 0");
        Counted x = of(SKEW, SKEW);
        x.rise(0, 1, 3);
        x.rise(1, 4, 2);
        due("first", x.about(0, 5), 4 + 4 + 6 - 2);
        due("second", x.about(1, 5), 4 + 4 - 1);
        due("meld", x.meld(0, 1), 5);
        act("meld", x, 0, 8, 2, 0);
        due("both, and the act's", x.about(0, 5), 12 + 7 + 8 - 2);
        due("second", x.about(1, 5), 0);
        due("the first one's steps", x.about(0, 6), 2 + 2);
        due("the second one's stay with it", x.about(1, 6), 1);
        due("to an empty first", x.meld(1, 0), 5);
        due("all comes", x.about(1, 5), 25 + 8);
        due("nothing is left", x.about(0, 5), 0);
    }

    private static void ledgerIsFull() {
        sentence("The LEDGER has a row for each act, from 0 on, at most 20000.");
        Counted x = of(DOUBLING, TURNING);
        fillLedger(x, 0, 1);
        due("the last but one", x.ledger(MOST - 2, 0), 0);
        due("not yet", x.ledger(MOST - 1, 0), NONE);
        due("one is left", x.find(1, 5), 0);
        act("the last row", x, 1, 24, 0, 0);
        due("rows", x.count(2), MOST);
        due("then none", x.find(1, 5), FULL);
        due("then none", x.pull(0), FULL);
        due("rows still", x.count(2), MOST);
        due("row 0", x.ledger(0, 1), 3);
        due("the last row", x.ledger(MOST - 1, 0), 1);
        due("none behind it", x.ledger(MOST, 0), NONE);
        due("all of them", x.spread(MOST), 0);
        due("one more", x.spread(MOST + 1), NONE);
    }

    private static void foundAtFirst() {
        sentence("FOUND are a key and a value, 0 and 0 at first");
        Counted x = of(PLAIN, SKEW, GAPPED, TURNING);
        found("of a new one", x, 0, 0);
        for (int s = 0; s < 4; s++) {
            x.rise(s, 7, 3);
        }
        x.find(0, 5);
        x.drop(3, 5);
        x.below(0, 7);
        x.above(3, 9);
        x.split(3, 8);
        x.pop(0);
        x.pull(1);
        found("still", x, 0, 0);
    }

    private static void foundByEach() {
        sentence("of the latest find that met its key (its first value), drop that met it (the "
            + "value that went), below or above that found one (its first value), pop (what "
            + "went), and pull (the number, and 0)");
        for (int kind = PLAIN; kind <= TURNING; kind++) {
            Counted x = of(kind, UPWARD, DOUBLING);
            x.insert(0, 5, 51);
            x.insert(0, 5, 52);
            x.insert(0, 8, 81);
            x.insert(1, 3, 31);
            x.push(2, 6);
            x.find(0, 5);
            found("find", x, 5, 51);
            x.above(0, 5);
            found("above", x, 8, 81);
            x.below(0, 8);
            found("below", x, 5, 51);
            x.pull(2);
            found("pull", x, 6, 0);
            x.drop(0, 5);
            found("drop", x, 5, 51);
            x.pop(1);
            found("pop", x, 3, 31);
            x.drop(0, 5);
            found("drop of the last", x, 5, 52);
        }
        Counted x = of(PLAIN, SKEW, GAPPED);
        x.insert(0, LEAST, Integer.MIN_VALUE);
        x.insert(1, GREATEST, Integer.MAX_VALUE);
        x.push(2, LEAST);
        x.find(0, LEAST);
        found("the least", x, LEAST, Integer.MIN_VALUE);
        x.pop(1);
        found("the greatest", x, GREATEST, Integer.MAX_VALUE);
        x.pull(2);
        found("the least number", x, LEAST, 0);
    }

    private static void foundStays() {
        sentence("FOUND: what meets nothing leaves it as it was");
        Counted x = of(TURNING, SKEW, GAPPED, TURNING, SKEW);
        insertAll(x, 0, 5, 6, 7);
        x.find(0, 6);
        x.find(0, 9);
        x.drop(0, 9);
        x.below(0, 5);
        x.above(0, 7);
        x.find(3, 5);
        x.pop(1);
        x.pull(2);
        x.insert(0, 8, 8);
        x.rise(1, 8, 8);
        x.push(2, 8);
        x.split(0, 7);
        x.join(0, 3);
        x.meld(4, 1);
        found("as it was", x, 6, 60);
    }
}
