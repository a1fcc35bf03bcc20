/** Each promise of the document: ordinary inputs, its edges, and wrong inputs that change nothing. */
public final class PromisesTest extends Cases {
    public static void main(String[] args) {
        new PromisesTest().runAll();
    }

    // Promise 1

    void newObject() {
        SharedQueues x = new SharedQueues();
        for (int q = 0; q < 12; q++) {
            queueIs("new", x, q, 0, 0, 1, 96, 0, 0, 0, -1, 0, 0, 0, 0, 0);
        }
        allIs("new", x, 96, 96, 0, 0, 0, 0, 0);
        check.due("new: next()", x.next(), -1);
        check.due("new: word()", x.word(), 0);
    }

    // Promise 2

    void quotaSetsAndAnswersAllKept() {
        SharedQueues x = new SharedQueues();
        check.due("quota(0, 5, 10)", x.quota(0, 5, 10), 10);
        check.due("quota(11, 0, 86)", x.quota(11, 0, 86), 96);
        check.due("quota(0, 96, 10) again", x.quota(0, 96, 10), 96);
        check.due("quota(0, 96, 3)", x.quota(0, 96, 3), 89);
        check.due("its quota", x.told(0, 3), 96);
        check.due("its kept cells", x.told(0, 4), 3);
        check.due("the other's quota", x.told(11, 3), 0);
        check.due("the other's kept cells", x.told(11, 4), 86);
        check.due("kept in all", x.all(2), 89);
        check.due("quota(11, 96, 0)", x.quota(11, 96, 0), 3);
        check.due("quota(0, 96, 96)", x.quota(0, 96, 96), 96);
    }

    void quotaRefusesWrongInputs() {
        SharedQueues x = busy();
        int[] before = State.of(x);
        for (int q : NO_QUEUES) {
            check.illegal("quota of queue " + q, () -> x.quota(q, 0, 0));
        }
        for (int wrong : new int[] {-1, 97, MIN, MAX}) {
            check.illegal("quota " + wrong, () -> x.quota(3, wrong, 0));
            check.illegal("kept " + wrong, () -> x.quota(3, 0, wrong));
        }
        check.illegal("97 kept in all", () -> x.quota(3, 50, 97 - x.all(2)));
        unchanged("quota", x, before);
    }

    void quotaLeavesItems() {
        SharedQueues x = new SharedQueues();
        pushMany(x, 4, 20);
        x.quota(4, 3, 7);
        check.due("items stay under a smaller quota", x.told(4, 0), 20);
        check.due("push above a smaller quota", x.push(4, 0, 1), -2);
        check.due("open cells", x.all(1), 76);
        x.quota(5, 96, 80);
        check.due("open cells below 0", x.all(1), -4);
        check.due("free cells", x.all(0), 76);
    }

    // Promise 3

    void kindSetsClassAndQuantum() {
        SharedQueues x = new SharedQueues();
        x.kind(0, 3, 1000);
        x.kind(11, 1, 1);
        check.due("class of 0", x.told(0, 1), 3);
        check.due("quantum of 0", x.told(0, 2), 1000);
        check.due("class of 11", x.told(11, 1), 1);
        check.due("quantum of 11", x.told(11, 2), 1);
        check.due("class of 1", x.told(1, 1), 0);
    }

    void kindRefusesWrongInputs() {
        SharedQueues x = busy();
        int[] before = State.of(x);
        for (int q : NO_QUEUES) {
            check.illegal("kind of queue " + q, () -> x.kind(q, 0, 1));
        }
        for (int wrong : new int[] {-1, 4, MIN, MAX}) {
            check.illegal("class " + wrong, () -> x.kind(0, wrong, 9));
        }
        for (int wrong : new int[] {-1, 0, 1001, MIN, MAX}) {
            check.illegal("quantum " + wrong, () -> x.kind(0, 3, wrong));
        }
        unchanged("kind", x, before);
    }

    void kindMovesToTheEndOfTheOtherRing() {
        SharedQueues x = new SharedQueues();
        for (int q = 0; q < 4; q++) {
            x.kind(q, q < 3 ? 1 : 2, 10);
            x.push(q, q, 4);
            x.push(q, q, 4);
        }
        check.due("serve()", x.serve(), 0);
        queueIs("with a turn", x, 0, 1, 1, 10, 96, 0, 6, 1, 0, 2, 0, 1, 4, 4);
        x.kind(0, 2, 10);
        queueIs("its deficit stays, its turn does not", x, 0, 1, 2, 10, 96, 0, 6, 0, 1, 2, 0, 1, 4, 4);
        check.due("the next of its old ring comes to the front", x.told(1, 7), 0);
        check.due("and the one behind it follows", x.told(2, 7), 1);
        check.due("the one that was in the new ring stays at its front", x.told(3, 7), 0);
        x.kind(0, 1, 10);
        check.due("it comes back to the end", x.told(0, 7), 2);
    }

    void kindOfTheSameClassKeepsPlaceAndTurn() {
        SharedQueues x = new SharedQueues();
        x.kind(0, 0, 5);
        pushCosts(x, 0, 2, 2, 2);
        pushCosts(x, 1, 2);
        check.due("serve()", x.serve(), 0);
        x.kind(0, 0, 9);
        queueIs("same class", x, 0, 2, 0, 9, 96, 0, 3, 1, 0, 3, 0, 1, 2, 4);
        check.due("served on its turn, without the new quantum", x.serve(), 0);
        check.due("deficit", x.told(0, 5), 1);
    }

    void kindOfAQueueWithoutItemsJoinsNoRing() {
        SharedQueues x = new SharedQueues();
        x.kind(7, 2, 3);
        check.due("place", x.told(7, 7), -1);
        check.due("next()", x.next(), -1);
        x.push(6, 1, 1);
        x.kind(6, 2, 3);
        x.push(7, 1, 1);
        check.due("place of 6", x.told(6, 7), 0);
        check.due("place of 7", x.told(7, 7), 1);
    }

    // Promise 4

    void pushPutsBehind() {
        SharedQueues x = new SharedQueues();
        check.due("push(11, MIN, 1)", x.push(11, MIN, 1), 100);
        check.due("push(11, MAX, 2000)", x.push(11, MAX, 2000), 100);
        check.due("push(0, 0, 3)", x.push(0, 0, 3), 100);
        check.due("first word", x.item(11, 0, 0), MIN);
        check.due("second word", x.item(11, 1, 0), MAX);
        check.due("second cost", x.item(11, 1, 1), 2000);
        check.due("place of 11", x.told(11, 7), 0);
        check.due("place of 0", x.told(0, 7), 1);
        check.due("pushed", x.told(11, 8), 2);
    }

    void pushRefusesWrongInputs() {
        SharedQueues x = busy();
        x.quota(3, 0, 0);
        int[] before = State.of(x);
        for (int q : NO_QUEUES) {
            check.illegal("push to queue " + q, () -> x.push(q, 0, 1));
        }
        for (int wrong : new int[] {0, -1, 2001, MIN, MAX}) {
            check.illegal("cost " + wrong, () -> x.push(0, 0, wrong));
            check.illegal("cost " + wrong + " where OVER is due else", () -> x.push(3, 0, wrong));
        }
        unchanged("push", x, before);
    }

    void pushAnswersOver() {
        SharedQueues x = new SharedQueues();
        x.quota(2, 3, 10);
        pushMany(x, 2, 3);
        int[] before = State.of(x);
        check.due("push at the quota", x.push(2, 9, 9), -2);
        before[12 * 13 + 5]++;
        unchanged("OVER", x, before);
        pushMany(x, 0, 86);
        check.due("no open cell: still FULL for another", x.push(0, 9, 9), -3);
        check.due("OVER comes before FULL", x.push(2, 9, 9), -2);
        x.quota(2, 96, 10);
        for (int i = 0; i < 7; i++) {
            check.due("a kept cell " + i, x.push(2, 9, 9), 100);
        }
        check.due("free", x.all(0), 0);
        SharedQueues y = new SharedQueues();
        pushMany(y, 5, 96);
        check.due("96 items are the first quota", y.push(5, 1, 1), -2);
    }

    void pushKeepsCellsForOthers() {
        SharedQueues x = new SharedQueues();
        x.quota(0, 96, 10);
        x.quota(1, 96, 20);
        pushMany(x, 2, 66);
        check.due("open", x.all(1), 0);
        check.due("free", x.all(0), 30);
        int[] before = State.of(x);
        check.due("no open cell for 2", x.push(2, 1, 1), -3);
        before[12 * 13 + 6]++;
        unchanged("FULL", x, before);
        for (int i = 0; i < 10; i++) {
            check.due("kept cell " + i, x.push(0, i, 1), 100);
        }
        check.due("excess 0 and no open cell: 2 gives way", x.push(0, 10, 1), 2);
        for (int i = 0; i < 20; i++) {
            check.due("kept cell " + i, x.push(1, i, 1), 100);
        }
        check.due("free", x.all(0), 0);
        check.due("no free cell: 2 gives way", x.push(1, 20, 1), 2);
        check.due("lost by 2", x.told(2, 9), 2);
        check.due("items of 2", x.told(2, 0), 64);
    }

    void pushTakesFromTheGreatestExcess() {
        SharedQueues x = new SharedQueues();
        x.quota(3, 96, 20);
        pushMany(x, 3, 40);
        pushMany(x, 9, 28);
        pushMany(x, 7, 28);
        check.due("the greatest excess, of two the least number", x.push(0, 1, 1), 7);
        check.due("then the other", x.push(0, 1, 1), 9);
        check.due("the last item is lost", x.item(7, 26, 0), 26);
        check.outOfBounds("the last item is lost", () -> x.item(7, 27, 0));
        check.due("the first stays", x.item(7, 0, 0), 0);
        check.due("lost by 7", x.told(7, 9), 1);
        check.due("costs of 7", x.told(7, 12), 27 * 28 / 2);
        check.due("lost in all", x.all(4), 2);
        check.due("pushed to 0", x.told(0, 8), 2);
        check.due("pushed to 7 stays", x.told(7, 8), 28);
        check.due("3 with most items has less excess", x.told(3, 0), 40);
    }

    void pushNeedsALeadOfTwo() {
        SharedQueues x = new SharedQueues();
        pushMany(x, 0, 49);
        pushMany(x, 1, 47);
        check.due("a lead of two", x.push(1, 5, 5), 0);
        check.due("a lead of none", x.push(1, 5, 5), -3);
        check.due("none over itself", x.push(0, 5, 5), -3);
        x.quota(0, 96, 1);
        check.due("a lead of one", x.push(0, 5, 5), -3);
        x.quota(0, 96, 2);
        check.due("a lead of two", x.push(0, 5, 5), 1);
        check.due("items of 0", x.told(0, 0), 49);
        check.due("items of 1", x.told(1, 0), 47);
    }

    void pushTakesTheOnlyItem() {
        SharedQueues x = new SharedQueues();
        x.kind(5, 1, 50);
        x.push(5, 77, 40);
        x.push(5, 78, 40);
        check.due("serve()", x.serve(), 5);
        queueIs("5 with a turn", x, 5, 1, 1, 50, 96, 0, 10, 1, 0, 2, 0, 1, 40, 40);
        x.kind(0, 1, 1);
        pushMany(x, 0, 95);
        x.quota(0, 96, 95);
        x.quota(1, 96, 1);
        x.kind(1, 1, 1);
        check.due("5 loses its only item", x.push(1, 3, 3), 5);
        queueIs("5 without items", x, 5, 0, 1, 50, 96, 0, 0, 0, -1, 2, 1, 1, 40, 0);
        check.due("place of 0", x.told(0, 7), 0);
        check.due("place of 1", x.told(1, 7), 1);
    }

    void pushTakesWhereOpenCellsAreBelowNone() {
        SharedQueues x = new SharedQueues();
        pushMany(x, 0, 60);
        x.quota(1, 96, 50);
        x.quota(2, 96, 40);
        check.due("open", x.all(1), -54);
        check.due("another takes from 0", x.push(3, 1, 1), 0);
        for (int i = 0; i < 36; i++) {
            check.due("free cell " + i + " for 1, whose excess is below 0", x.push(1, i, 1), 100);
        }
        check.due("free", x.all(0), 0);
        check.due("no free cell for 2: 0 gives way", x.push(2, 1, 1), 0);
        check.due("free", x.all(0), 0);
    }

    // Promise 5

    void serveGoesByClassesAndTurns() {
        SharedQueues x = new SharedQueues();
        x.kind(3, 2, 3);
        x.kind(4, 2, 2);
        x.kind(5, 0, 1);
        x.kind(6, 3, 1000);
        pushCosts(x, 6, 1);
        pushCosts(x, 3, 1, 1, 1, 1);
        pushCosts(x, 4, 1, 1, 1);
        pushCosts(x, 5, 1);
        int[] want = {5, 3, 3, 3, 4, 4, 3, 4, 6, -1};
        for (int i = 0; i < want.length; i++) {
            check.due("serve " + i, x.serve(), want[i]);
        }
    }

    void serveKeepsTheDeficit() {
        SharedQueues x = new SharedQueues();
        x.kind(0, 0, 10);
        x.kind(1, 0, 10);
        pushCosts(x, 0, 7, 7, 6, 1);
        pushCosts(x, 1, 10, 25);
        check.due("0 for 7 of 10", x.serve(), 0);
        check.due("deficit 3", x.told(0, 5), 3);
        check.due("7 is above 3: 1", x.serve(), 1);
        check.due("0 has no turn", x.told(0, 6), 0);
        check.due("0 is at the end", x.told(0, 7), 1);
        check.due("its deficit stays", x.told(0, 5), 3);
        check.due("1 paid all", x.told(1, 5), 0);
        check.due("25 is above 0: 0 with 13", x.serve(), 0);
        check.due("6 of 6", x.serve(), 0);
        check.due("deficit 0, its turn stays", x.told(0, 6), 1);
        check.due("1 is above 0; 1 has 10; 0 has 10", x.serve(), 0);
        check.due("a queue without items has deficit 0", x.told(0, 5), 0);
        check.due("and no turn", x.told(0, 6), 0);
        check.due("1 got its quantum in vain", x.told(1, 5), 10);
        check.due("two turns more", x.serve(), 1);
        check.due("served", x.told(1, 10), 2);
        check.due("costs served", x.told(1, 11), 35);
        check.due("served in all", x.all(3), 6);
    }

    void serveOfGreatCostBySmallQuantum() {
        SharedQueues x = new SharedQueues();
        x.kind(2, 0, 7);
        pushCosts(x, 0, 2000, 2000);
        pushCosts(x, 1, 1999, 1);
        pushCosts(x, 2, 1, 2000);
        check.due("first 2", x.serve(), 2);
        check.due("2 reaches 2000 first", x.next(), 2);
        check.due("2", x.serve(), 2);
        // 2 had 6; it needs 285 turns more, and stands behind 0 and 1 in each round.
        check.due("deficit of 0", x.told(0, 5), 286);
        check.due("deficit of 1", x.told(1, 5), 286);
        check.due("1 has 1999 before 0 has 2000", x.serve(), 1);
        check.due("deficit of 0", x.told(0, 5), 1999);
        check.due("then 0", x.serve(), 0);
        check.due("deficit of 1", x.told(1, 5), 0);
    }

    void serveOfNone() {
        SharedQueues x = new SharedQueues();
        x.kind(0, 2, 9);
        int[] before = State.of(x);
        check.due("serve()", x.serve(), -1);
        unchanged("serve of none", x, before);
    }

    // Promise 6

    void nextChangesNothing() {
        SharedQueues x = busy();
        for (int i = 0; i < 40; i++) {
            int[] before = State.of(x);
            int next = x.next();
            unchanged("next()", x, before);
            check.due("next() is what serve() answers", x.serve(), next);
        }
    }

    // Promise 7

    void wordIsTheLastServed() {
        SharedQueues x = new SharedQueues();
        x.push(0, -5, 1);
        x.push(0, 6, 1);
        x.push(1, 7, 1);
        x.push(0, 8, 1);
        check.due("word() before", x.word(), 0);
        x.serve();
        check.due("word()", x.word(), -5);
        x.next();
        x.empty(1);
        check.due("word() after next() and empty()", x.word(), -5);
        x.serveUpTo(2);
        check.due("word() after serveUpTo()", x.word(), 8);
        x.serve();
        check.due("word() after serve() of none", x.word(), 8);
    }

    // Promise 8

    void serveUpToStopsAtTheFirstAbove() {
        SharedQueues x = new SharedQueues();
        x.kind(0, 0, 1000);
        pushCosts(x, 0, 10, 20, 30, 1);
        check.due("serveUpTo(0)", x.serveUpTo(0), 0);
        check.due("serveUpTo(9)", x.serveUpTo(9), 0);
        check.due("serveUpTo(30) just fits two", x.serveUpTo(30), 2);
        check.due("serveUpTo(29) does not pass the 30 for the 1", x.serveUpTo(29), 0);
        check.due("serveUpTo(100000)", x.serveUpTo(100000), 2);
        check.due("serveUpTo of none", x.serveUpTo(100000), 0);
        check.due("served", x.all(3), 4);
        check.due("costs served", x.told(0, 11), 61);
        x.kind(1, 1, 1);
        for (int i = 0; i < 96; i++) {
            x.push(i % 12, i, 2000);
        }
        check.due("serveUpTo(100000) of 96 that cost 2000", x.serveUpTo(100000), 50);
        check.due("and again", x.serveUpTo(100000), 46);
        pushMany(x, 0, 96);
        check.due("all 96", x.serveUpTo(100000), 96);
    }

    void serveUpToLeavesTurnsOfTheUnserved() {
        SharedQueues x = new SharedQueues();
        x.kind(0, 0, 4);
        x.kind(1, 0, 4);
        pushCosts(x, 0, 3, 9);
        pushCosts(x, 1, 9);
        check.due("serveUpTo(5)", x.serveUpTo(5), 1);
        queueIs("0 stays first with its turn", x, 0, 1, 0, 4, 96, 0, 1, 1, 0, 2, 0, 1, 3, 9);
        queueIs("1 got no turn", x, 1, 1, 0, 4, 96, 0, 0, 0, 1, 1, 0, 0, 0, 9);
        int[] before = State.of(x);
        check.due("serveUpTo(8)", x.serveUpTo(8), 0);
        unchanged("serveUpTo of none", x, before);
    }

    void serveUpToRefusesWrongInputs() {
        SharedQueues x = busy();
        int[] before = State.of(x);
        for (int wrong : new int[] {-1, 100001, MIN, MAX}) {
            check.illegal("serveUpTo " + wrong, () -> x.serveUpTo(wrong));
        }
        unchanged("serveUpTo", x, before);
    }

    // Promise 9

    void emptyTakesAllItems() {
        SharedQueues x = new SharedQueues();
        x.kind(0, 0, 10);
        pushCosts(x, 0, 3, 4, 5);
        pushCosts(x, 1, 1);
        x.serve();
        check.due("empty(0)", x.empty(0), 2);
        queueIs("emptied", x, 0, 0, 0, 10, 96, 0, 0, 0, -1, 3, 0, 1, 3, 0);
        check.due("1 is first", x.told(1, 7), 0);
        check.due("free", x.all(0), 95);
        check.due("not lost", x.all(4), 0);
        check.due("not served", x.all(3), 1);
        check.due("empty(0) again", x.empty(0), 0);
        x.push(0, 9, 8);
        check.due("it comes to the end", x.told(0, 7), 1);
        check.due("with its new item first", x.item(0, 0, 0), 9);
        check.due("its costs", x.told(0, 12), 8);
    }

    void emptyRefusesWrongInputs() {
        SharedQueues x = busy();
        int[] before = State.of(x);
        for (int q : NO_QUEUES) {
            check.illegal("empty " + q, () -> x.empty(q));
        }
        unchanged("empty", x, before);
    }

    // Promise 10

    void toldOfAQueue() {
        SharedQueues x = new SharedQueues();
        x.quota(8, 40, 30);
        x.kind(8, 1, 50);
        x.kind(9, 1, 50);
        pushCosts(x, 9, 45, 100);
        pushCosts(x, 8, 20, 60, 7);
        check.due("serve()", x.serve(), 9);
        check.due("serve()", x.serve(), 8);
        queueIs("8", x, 8, 2, 1, 50, 40, 30, 30, 1, 0, 3, 0, 1, 20, 67);
        queueIs("9", x, 9, 1, 1, 50, 96, 0, 5, 0, 1, 2, 0, 1, 45, 100);
    }

    void toldRefusesWrongInputs() {
        SharedQueues x = busy();
        int[] before = State.of(x);
        for (int q : NO_QUEUES) {
            check.illegal("told of queue " + q, () -> x.told(q, 0));
        }
        for (int wrong : new int[] {-1, 13, MIN, MAX}) {
            check.illegal("told what " + wrong, () -> x.told(0, wrong));
        }
        unchanged("told", x, before);
    }

    // Promise 11

    void itemTellsWordAndCost() {
        SharedQueues x = new SharedQueues();
        x.push(1, -7, 11);
        x.push(1, 8, 12);
        x.push(1, 9, 13);
        x.kind(1, 0, 1000);
        x.serve();
        check.due("item(1, 0, 0)", x.item(1, 0, 0), 8);
        check.due("item(1, 0, 1)", x.item(1, 0, 1), 12);
        check.due("item(1, 1, 0)", x.item(1, 1, 0), 9);
        check.due("item(1, 1, 1)", x.item(1, 1, 1), 13);
    }

    void itemRefusesWrongInputs() {
        SharedQueues x = busy();
        int[] before = State.of(x);
        for (int q : NO_QUEUES) {
            check.illegal("item of queue " + q, () -> x.item(q, 0, 0));
            check.illegal("item of queue " + q + ", no such item", () -> x.item(q, -1, 0));
        }
        for (int wrong : new int[] {-1, 2, MIN, MAX}) {
            check.illegal("item what " + wrong, () -> x.item(0, 0, wrong));
            check.illegal("item what " + wrong + ", no such item", () -> x.item(0, -1, wrong));
        }
        for (int wrong : new int[] {-1, x.told(0, 0), 96, MIN, MAX}) {
            check.outOfBounds("item " + wrong, () -> x.item(0, wrong, 0));
            check.outOfBounds("item " + wrong, () -> x.item(0, wrong, 1));
        }
        check.outOfBounds("item 0 of a queue without items", () -> x.item(10, 0, 0));
        unchanged("item", x, before);
    }

    void itemsGoRoundTheRow() {
        SharedQueues x = new SharedQueues();
        x.kind(0, 0, 1000);
        pushMany(x, 0, 96);
        for (int i = 0; i < 50; i++) {
            x.serve();
        }
        for (int i = 96; i < 146; i++) {
            check.due("push " + i, x.push(0, i, 1), 100);
        }
        for (int k = 0; k < 96; k++) {
            check.due("item " + k, x.item(0, k, 0), k + 50);
        }
        check.due("2 takes the last", x.push(2, 5, 5), 0);
        check.due("the last but one is the last", x.item(0, 94, 0), 144);
        check.due("its costs", x.told(0, 12), (51 + 96) * 46 / 2 + 49);
    }

    // Promise 12

    void allTells() {
        SharedQueues x = new SharedQueues();
        x.quota(0, 96, 10);
        x.quota(1, 2, 0);
        pushMany(x, 1, 2);
        x.push(1, 0, 1);
        pushMany(x, 0, 4);
        allIs("some", x, 90, 84, 10, 0, 0, 1, 0);
        pushMany(x, 2, 84);
        x.push(2, 0, 1);
        x.push(2, 0, 1);
        x.push(3, 0, 1);
        allIs("no open cell", x, 6, 0, 10, 0, 1, 1, 2);
        x.serve();
        x.serve();
        check.due("served", x.all(3), 2);
        x.quota(4, 0, 86);
        check.due("kept", x.all(2), 96);
        check.due("open below 0", x.all(1) < 0 ? 1 : 0, 1);
    }

    void allRefusesWrongInputs() {
        SharedQueues x = busy();
        int[] before = State.of(x);
        for (int wrong : new int[] {-1, 7, MIN, MAX}) {
            check.illegal("all " + wrong, () -> x.all(wrong));
        }
        unchanged("all", x, before);
    }

    void objectsAreApart() {
        SharedQueues x = busy();
        SharedQueues y = new SharedQueues();
        int[] before = State.of(y);
        x.push(1, 1, 1);
        x.serve();
        unchanged("another object", y, before);
    }
}
