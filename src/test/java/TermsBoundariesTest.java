/** The boundary cases in the document's "Terms": each test stands behind the words that it would find broken. */
public final class TermsBoundariesTest extends Cases {
    public static void main(String[] args) {
        new TermsBoundariesTest().runAll();
    }

    // "QUEUES 0 .. 11"

    void theFirstAndTheLastQueueAreThere() {
        for (int q : new int[] {0, 11}) {
            SharedQueues x = new SharedQueues();
            check.due("quota of " + q, x.quota(q, 96, 1), 1);
            x.kind(q, 1, 2);
            check.due("push to " + q, x.push(q, 5, 1), 100);
            check.due("next", x.next(), q);
            check.due("item of " + q, x.item(q, 0, 0), 5);
            check.due("serve", x.serve(), q);
            check.due("push to " + q, x.push(q, 6, 1), 100);
            check.due("empty " + q, x.empty(q), 1);
            queueIs("after all", x, q, 0, 1, 2, 96, 1, 0, 0, -1, 2, 0, 1, 1, 0);
        }
    }

    void noQueueIsBelowTheFirstOrBehindTheLast() {
        SharedQueues x = busy();
        int[] before = State.of(x);
        for (int q : NO_QUEUES) {
            check.illegal("quota of " + q, () -> x.quota(q, 96, 0));
            check.illegal("kind of " + q, () -> x.kind(q, 0, 1));
            check.illegal("push to " + q, () -> x.push(q, 1, 1));
            check.illegal("empty " + q, () -> x.empty(q));
            for (int what = 0; what <= 12; what++) {
                int told = what;
                check.illegal("told of " + q, () -> x.told(q, told));
            }
            check.illegal("item of " + q, () -> x.item(q, 0, 0));
            check.illegal("item of " + q, () -> x.item(q, 0, 1));
        }
        unchanged("a call with no such queue", x, before);
    }

    // "96 CELLS"; "FREE cells: 96 less all items"

    void cellsAre96ForAllTogether() {
        SharedQueues x = new SharedQueues();
        for (int i = 0; i < 96; i++) {
            check.due("free", x.all(0), 96 - i);
            check.due("push " + i, x.push(i % 12, i, 1), 100);
        }
        check.due("free", x.all(0), 0);
        for (int q = 0; q < 12; q++) {
            check.due("the 97th", x.push(q, 1, 1), -3);
        }
        x.serve();
        check.due("free", x.all(0), 1);
        check.due("one cell is free again", x.push(5, 1, 1), 100);
        check.due("and none again", x.push(0, 1, 1), 5);
    }

    void cellsAre96ForOneQueue() {
        SharedQueues x = new SharedQueues();
        for (int i = 0; i < 96; i++) {
            check.due("push " + i, x.push(3, i, 1), 100);
        }
        check.due("free", x.all(0), 0);
        check.due("the 97th", x.push(3, 1, 1), -2);
        check.due("another takes from it", x.push(4, 1, 1), 3);
        check.due("free", x.all(0), 0);
    }

    // "a CLASS 0 to 3 (at first 0)"

    void classesAre0To3() {
        SharedQueues x = new SharedQueues();
        x.push(6, 1, 1);
        check.due("class at first", x.told(6, 1), 0);
        for (int kind : new int[] {3, 2, 1, 0}) {
            x.kind(6, kind, 1);
            check.due("class", x.told(6, 1), kind);
            check.due("place", x.told(6, 7), 0);
            check.due("it is served from class " + kind, x.next(), 6);
        }
        refusesClasses(new SharedQueues());
        refusesClasses(busy());
    }

    private void refusesClasses(SharedQueues x) {
        int[] before = State.of(x);
        for (int wrong : new int[] {-1, 4, MIN, MAX}) {
            for (int q = 0; q < 12; q++) {
                int queue = q;
                check.illegal("class " + wrong, () -> x.kind(queue, wrong, 500));
            }
        }
        unchanged("a class out of its range", x, before);
    }

    // "a QUANTUM 1 to 1000 (1)"

    void quantaAre1To1000() {
        SharedQueues x = new SharedQueues();
        pushCosts(x, 0, 1, 1, 1000, 1, 1);
        check.due("quantum at first", x.told(0, 2), 1);
        x.serve();
        check.due("one turn of 1 pays 1", x.told(0, 5), 0);
        x.kind(0, 0, 1000);
        x.serve();
        check.due("one turn of 1000 pays 1", x.told(0, 5), 999);
        x.serve();
        check.due("another turn for 1000", x.told(0, 5), 999);
        x.kind(0, 0, 1);
        check.due("quantum", x.told(0, 2), 1);
        int[] before = State.of(x);
        for (int wrong : new int[] {0, -1, 1001, MIN, MAX}) {
            check.illegal("quantum " + wrong, () -> x.kind(0, 0, wrong));
            check.illegal("quantum " + wrong + " with another class", () -> x.kind(0, 1, wrong));
        }
        unchanged("a quantum out of its range", x, before);
    }

    // "a QUOTA 0 to 96 (96)"

    void quotasAre0To96() {
        SharedQueues x = new SharedQueues();
        check.due("quota at first", x.told(0, 3), 96);
        x.quota(0, 0, 0);
        check.due("quota 0", x.told(0, 3), 0);
        x.quota(0, 96, 0);
        check.due("quota 96", x.told(0, 3), 96);
        int[] before = State.of(x);
        for (int wrong : new int[] {-1, 97, MIN, MAX}) {
            check.illegal("quota " + wrong, () -> x.quota(0, wrong, 5));
        }
        unchanged("a quota out of its range", x, before);
    }

    // "cells KEPT for it 0 to 96 (0; all together 96 at most)"

    void keptAre0To96ForOne() {
        SharedQueues x = new SharedQueues();
        check.due("kept at first", x.told(7, 4), 0);
        check.due("kept 96", x.quota(7, 96, 96), 96);
        check.due("kept 96", x.told(7, 4), 96);
        check.due("open", x.all(1), 0);
        check.due("kept 0", x.quota(7, 96, 0), 0);
        check.due("open", x.all(1), 96);
        int[] before = State.of(x);
        for (int wrong : new int[] {-1, 97, MIN, MAX}) {
            check.illegal("kept " + wrong, () -> x.quota(7, 5, wrong));
        }
        unchanged("kept cells out of their range", x, before);
    }

    void keptAre96AtMostForAll() {
        SharedQueues x = new SharedQueues();
        for (int q = 0; q < 12; q++) {
            check.due("8 more kept", x.quota(q, 96, 8), 8 * (q + 1));
        }
        check.due("its own 8 do not count twice", x.quota(4, 50, 8), 96);
        int[] before = State.of(x);
        for (int q = 0; q < 12; q++) {
            int queue = q;
            check.illegal("the 97th kept", () -> x.quota(queue, 50, 9));
            check.illegal("96 more kept", () -> x.quota(queue, 50, 96));
        }
        unchanged("more than 96 kept", x, before);
        check.due("one less", x.quota(0, 96, 7), 95);
        check.due("one more", x.quota(11, 96, 9), 96);
    }

    // "ITEMS: a word (an int) and a COST, 1 to 2000"

    void wordsAreAllIntsAndCosts1To2000() {
        SharedQueues x = new SharedQueues();
        int[] words = {MIN, -1, 0, 1, MAX};
        for (int k = 0; k < words.length; k++) {
            check.due("word " + words[k], x.push(2, words[k], k % 2 == 0 ? 1 : 2000), 100);
        }
        for (int k = 0; k < words.length; k++) {
            check.due("word", x.item(2, k, 0), words[k]);
            check.due("cost", x.item(2, k, 1), k % 2 == 0 ? 1 : 2000);
        }
        int[] before = State.of(x);
        for (int wrong : new int[] {0, -1, 2001, MIN, MAX}) {
            check.illegal("cost " + wrong, () -> x.push(2, 1, wrong));
            check.illegal("cost " + wrong + " of a first item", () -> x.push(3, 1, wrong));
        }
        unchanged("a cost out of its range", x, before);
    }

    // "EXCESS of a queue: its items less what is kept for it (below 0, too)"

    void excessBelowNoneIsLessThanNone() {
        SharedQueues x = new SharedQueues();
        pushMany(x, 1, 95);
        pushMany(x, 2, 1);
        x.quota(1, 96, 94);
        x.quota(3, 96, 1);
        check.due("the lead of 1 over 2 without kept cells is none", x.push(2, 1, 1), -3);
        check.due("the lead of 1 over 4 is one", x.push(4, 1, 1), -3);
        check.due("the lead of 1 over 3, one below 0, is two", x.push(3, 1, 1), 1);
    }

    // "OPEN ones: free ones less, for each queue with excess below 0, so many as it is below"

    void openIsFreeLessWhatQueuesAreBelow() {
        SharedQueues x = new SharedQueues();
        check.due("all open", x.all(1), 96);
        x.quota(0, 96, 3);
        check.due("3 below", x.all(1), 93);
        x.push(0, 1, 1);
        check.due("2 below: its own item takes none of the open ones", x.all(1), 93);
        x.push(0, 1, 1);
        x.push(0, 1, 1);
        check.due("none below", x.all(1), 93);
        x.push(0, 1, 1);
        check.due("one above takes one", x.all(1), 92);
        x.quota(1, 96, 92);
        check.due("open, none", x.all(1), 0);
        check.due("free", x.all(0), 92);
        x.quota(0, 96, 4);
        check.due("one kept more for a queue that is not below", x.all(1), 0);
        x.empty(0);
        check.due("4 below again, 96 free", x.all(1), 0);
    }

    void openMayBeBelowNone() {
        SharedQueues x = new SharedQueues();
        pushMany(x, 0, 96);
        check.due("none", x.all(1), 0);
        x.quota(1, 96, 1);
        check.due("one below", x.all(1), -1);
        x.quota(1, 96, 96);
        check.due("96 below", x.all(1), -96);
        check.due("free", x.all(0), 0);
        x.quota(1, 96, 40);
        x.quota(2, 96, 56);
        check.due("40 and 56 below", x.all(1), -96);
    }

    // "OVER (-2) if it has as many as its quota"

    void overAtTheQuotaNotBefore() {
        SharedQueues x = new SharedQueues();
        x.quota(0, 2, 0);
        check.due("the first of 2", x.push(0, 1, 1), 100);
        check.due("the second of 2", x.push(0, 2, 1), 100);
        check.due("the third", x.push(0, 3, 1), -2);
        x.serve();
        check.due("a place is there again", x.push(0, 4, 1), 100);
        check.due("and none again", x.push(0, 5, 1), -2);
        check.due("refused as OVER", x.all(5), 2);
        check.due("the last", x.item(0, 1, 0), 4);
    }

    void overAtQuotaNone() {
        SharedQueues x = new SharedQueues();
        x.quota(0, 0, 96);
        check.due("no item at quota 0, all cells kept for it or not", x.push(0, 1, 1), -2);
        check.due("in no ring", x.told(0, 7), -1);
        x.quota(0, 1, 0);
        check.due("one at quota 1", x.push(0, 1, 1), 100);
    }

    void overAboveALoweredQuota() {
        SharedQueues x = new SharedQueues();
        pushMany(x, 0, 5);
        x.quota(0, 3, 0);
        check.due("5 of 3", x.push(0, 1, 1), -2);
        x.serve();
        check.due("4 of 3", x.push(0, 1, 1), -2);
        x.serve();
        check.due("3 of 3", x.push(0, 1, 1), -2);
        x.serve();
        check.due("2 of 3", x.push(0, 1, 1), 100);
    }

    void overComesBeforeFullAndBeforeALoss() {
        SharedQueues x = new SharedQueues();
        x.quota(1, 1, 0);
        x.push(1, 1, 1);
        pushMany(x, 0, 95);
        check.due("no other loses one", x.push(1, 1, 1), -2);
        check.due("lost", x.all(4), 0);
        x.quota(0, 95, 0);
        check.due("FULL would be due else", x.push(0, 1, 1), -2);
        allIs("refused", x, 0, 0, 0, 0, 0, 2, 0);
    }

    // "If there is a free cell, and its excess is below 0, or an open cell is there, too: it comes behind its items"

    void theLastOpenCell() {
        SharedQueues x = new SharedQueues();
        x.quota(0, 96, 10);
        pushMany(x, 1, 85);
        check.due("open", x.all(1), 1);
        check.due("the last open cell", x.push(1, 7, 1), 100);
        check.due("its word comes behind", x.item(1, 85, 0), 7);
        check.due("open", x.all(1), 0);
        check.due("free", x.all(0), 10);
        check.due("free cells, but none open", x.push(1, 8, 1), -3);
        check.due("refused as FULL", x.all(6), 1);
    }

    void theLastKeptCell() {
        SharedQueues x = new SharedQueues();
        x.quota(0, 96, 2);
        x.quota(1, 96, 2);
        pushMany(x, 2, 92);
        check.due("excess -2, no open cell", x.push(0, 1, 1), 100);
        check.due("excess -1, no open cell", x.push(0, 2, 1), 100);
        check.due("free", x.all(0), 2);
        check.due("excess 0, no open cell: another loses one", x.push(0, 3, 1), 2);
        check.due("the free cells stay", x.all(0), 2);
        check.due("they are there for 1", x.push(1, 1, 1), 100);
        check.due("both", x.push(1, 2, 1), 100);
        check.due("free", x.all(0), 0);
    }

    void excessBelowNoneWithoutAFreeCell() {
        SharedQueues x = new SharedQueues();
        pushMany(x, 0, 96);
        x.quota(1, 96, 1);
        check.due("no free cell for its kept one: another loses one", x.push(1, 1, 1), 0);
        check.due("free", x.all(0), 0);
    }

    void freeCellsOfWhichNoneIsOpen() {
        SharedQueues x = new SharedQueues();
        pushMany(x, 0, 10);
        x.quota(1, 96, 96);
        check.due("open", x.all(1), -10);
        check.due("free", x.all(0), 86);
        check.due("2 gets its item of 0", x.push(2, 1, 1), 0);
        check.due("the free cells stay", x.all(0), 86);
        check.due("1 gets a free one", x.push(1, 1, 1), 100);
        check.due("free", x.all(0), 85);
    }

    // "the one with the greatest excess (of several that with the least number) LOSES its last item"

    void ofSeveralTheLeastNumberLoses() {
        SharedQueues x = new SharedQueues();
        for (int q = 11; q > 0; q--) {
            pushMany(x, q, 8);
        }
        pushMany(x, 0, 8);
        x.quota(6, 96, 5);
        for (int loser = 0; loser < 4; loser++) {
            check.due("each has 8 or, having lost, 7", x.push(6, 1, 1), loser);
        }
        check.due("6 has 7 beyond its own", x.push(6, 1, 1), -3);
        check.due("lost by the last", x.told(11, 9), 0);
    }

    void theGreatestExcessMayBeTheLastNumber() {
        SharedQueues x = new SharedQueues();
        pushMany(x, 0, 47);
        pushMany(x, 11, 48);
        pushMany(x, 5, 1);
        check.due("11 has one more than 0", x.push(5, 1, 1), 11);
        check.due("now both have 47", x.push(5, 1, 1), 0);
    }

    void mostItemsAreNotTheGreatestExcess() {
        SharedQueues x = new SharedQueues();
        pushMany(x, 0, 90);
        pushMany(x, 1, 6);
        x.quota(0, 96, 85);
        check.due("6 less 0 is above 90 less 85", x.push(2, 1, 1), 1);
    }

    void theLastItemIsLostAndTheFirstStays() {
        SharedQueues x = new SharedQueues();
        pushMany(x, 0, 96);
        check.due("0 loses", x.push(1, 1, 1), 0);
        check.due("items", x.told(0, 0), 95);
        check.due("the first", x.item(0, 0, 0), 0);
        check.due("the last", x.item(0, 94, 0), 94);
        check.outOfBounds("the lost one", () -> x.item(0, 95, 0));
        check.due("costs", x.told(0, 12), 95 * 96 / 2);
        check.due("lost", x.told(0, 9), 1);
        check.due("lost in all", x.all(4), 1);
        check.due("pushed", x.told(0, 8), 96);
    }

    // "if that excess is greater than that of the queue told by two at least; and the item comes; else FULL (-3)"

    void aLeadOfTwoIsEnough() {
        SharedQueues x = new SharedQueues();
        pushMany(x, 0, 49);
        pushMany(x, 1, 47);
        check.due("two", x.push(1, 1, 1), 0);
        check.due("items of 0", x.told(0, 0), 48);
        check.due("items of 1", x.told(1, 0), 48);
    }

    void aLeadOfOneIsTooSmall() {
        SharedQueues x = new SharedQueues();
        pushMany(x, 0, 48);
        pushMany(x, 1, 47);
        pushMany(x, 2, 1);
        int[] before = State.of(x);
        check.due("one", x.push(1, 1, 1), -3);
        before[12 * 13 + 6]++;
        unchanged("FULL", x, before);
    }

    void noneHasALeadOverItself() {
        SharedQueues x = new SharedQueues();
        pushMany(x, 0, 90);
        pushMany(x, 1, 6);
        x.quota(1, 96, 6);
        int[] before = State.of(x);
        check.due("the greatest itself", x.push(0, 1, 1), -3);
        before[12 * 13 + 6]++;
        unchanged("FULL", x, before);
    }

    void theOnlyItemMayBeLost() {
        SharedQueues x = new SharedQueues();
        pushMany(x, 0, 95);
        x.push(1, 7, 1);
        check.due("place of 1", x.told(1, 7), 1);
        x.quota(0, 96, 95);
        x.quota(2, 96, 1);
        check.due("1 loses its only item", x.push(2, 9, 1), 1);
        check.due("1 leaves the ring", x.told(1, 7), -1);
        check.due("2 comes behind 0", x.told(2, 7), 1);
    }

    // "one that gets its first item comes to its end, with DEFICIT 0 and no turn"

    void theFirstItemBringsToTheEnd() {
        SharedQueues x = new SharedQueues();
        int[] order = {11, 0, 7, 3};
        for (int place = 0; place < order.length; place++) {
            check.due("place before", x.told(order[place], 7), -1);
            x.push(order[place], 1, 1);
            queueIs("first item", x, order[place], 1, 0, 1, 96, 0, 0, 0, place);
        }
        x.push(11, 2, 1);
        check.due("a second one moves none", x.told(11, 7), 0);
        check.due("behind", x.told(0, 7), 1);
    }

    void aRefusedFirstItemBringsToNoRing() {
        SharedQueues x = new SharedQueues();
        x.quota(1, 0, 0);
        x.push(1, 1, 1);
        check.due("OVER", x.told(1, 7), -1);
        x.quota(0, 96, 96);
        pushMany(x, 0, 96);
        x.push(2, 1, 1);
        check.due("FULL", x.told(2, 7), -1);
        check.due("the only one served", x.next(), 0);
    }

    void theRingOfAllTwelve() {
        SharedQueues x = new SharedQueues();
        for (int q = 11; q >= 0; q--) {
            pushCosts(x, q, 1, 1);
        }
        for (int q = 0; q < 12; q++) {
            check.due("place of " + q, x.told(q, 7), 11 - q);
        }
        for (int i = 0; i < 24; i++) {
            check.due("serve " + i, x.serve(), 11 - i % 12);
        }
        check.due("none more", x.serve(), -1);
    }

    // "one without items leaves it"; "A queue without items has deficit 0"

    void theLastItemServedLeavesTheRing() {
        SharedQueues x = new SharedQueues();
        x.kind(0, 0, 1000);
        pushCosts(x, 0, 1);
        pushCosts(x, 1, 1);
        check.due("serve", x.serve(), 0);
        queueIs("without items", x, 0, 0, 0, 1000, 96, 0, 0, 0, -1, 1, 0, 1, 1, 0);
        check.due("1 comes to the front", x.told(1, 7), 0);
        pushCosts(x, 0, 1);
        queueIs("back at the end", x, 0, 1, 0, 1000, 96, 0, 0, 0, 1);
    }

    void theLastItemLostLeavesTheRing() {
        SharedQueues x = new SharedQueues();
        x.kind(1, 0, 1000);
        pushCosts(x, 1, 1, 1);
        check.due("serve", x.serve(), 1);
        check.due("deficit", x.told(1, 5), 999);
        pushMany(x, 0, 95);
        x.quota(0, 96, 95);
        x.quota(2, 96, 1);
        check.due("1 loses its last", x.push(2, 1, 1), 1);
        queueIs("without items", x, 1, 0, 0, 1000, 96, 0, 0, 0, -1, 2, 1, 1, 1, 0);
        check.due("0 comes to the front", x.told(0, 7), 0);
        check.due("2 to the end", x.told(2, 7), 1);
        x.quota(0, 96, 0);
        check.due("0 loses for 1", x.push(1, 1, 1), 0);
        queueIs("back at the end", x, 1, 1, 0, 1000, 96, 0, 0, 0, 2);
    }

    void theEmptiedLeavesTheRing() {
        SharedQueues x = new SharedQueues();
        x.kind(0, 0, 1000);
        pushCosts(x, 0, 1, 1, 1);
        pushCosts(x, 1, 1);
        x.serve();
        check.due("deficit", x.told(0, 5), 999);
        check.due("empty", x.empty(0), 2);
        queueIs("without items", x, 0, 0, 0, 1000, 96, 0, 0, 0, -1, 3, 0, 1, 1, 0);
        check.due("1 comes to the front", x.told(1, 7), 0);
        pushCosts(x, 0, 1);
        queueIs("back at the end", x, 0, 1, 0, 1000, 96, 0, 0, 0, 1);
    }

    void oneInTheMidstLeavesTheRing() {
        SharedQueues x = new SharedQueues();
        for (int q = 0; q < 5; q++) {
            x.push(q, 1, 1);
        }
        x.empty(2);
        int[] places = {0, 1, -1, 2, 3};
        for (int q = 0; q < 5; q++) {
            check.due("place of " + q, x.told(q, 7), places[q]);
        }
        x.empty(4);
        check.due("the last left", x.told(3, 7), 2);
    }

    void eachPlaceOfTheRingOfAllTwelveMayBeLeft() {
        for (int gone = 0; gone < 12; gone++) {
            SharedQueues x = new SharedQueues();
            for (int q = 0; q < 12; q++) {
                x.push(q, 1, 1);
            }
            x.empty(gone);
            for (int q = 0; q < 12; q++) {
                check.due("place of " + q + " without " + gone, x.told(q, 7), q < gone ? q : q == gone ? -1 : q - 1);
            }
            x.push(gone, 1, 1);
            check.due("back at the end", x.told(gone, 7), 11);
        }
    }

    // "SERVING: the ring of the first class that has one"

    void theFirstClassThatHasOneIsServed() {
        SharedQueues x = new SharedQueues();
        for (int kind = 3; kind >= 0; kind--) {
            x.kind(kind, kind, 1000);
            x.push(kind, kind, 1);
            x.push(kind, kind, 1);
            check.due("next", x.next(), kind);
            check.due("class " + kind + " comes before those behind it", x.serve(), kind);
        }
        for (int kind = 0; kind < 4; kind++) {
            check.due("class " + kind, x.serve(), kind);
        }
        check.due("none", x.serve(), -1);
    }

    void anEarlierClassIsServedFirstThoughItsDeficitIsSmall() {
        SharedQueues x = new SharedQueues();
        x.kind(0, 1, 1000);
        pushCosts(x, 0, 1, 1);
        pushCosts(x, 1, 2000);
        check.due("2000 turns of 1", x.serve(), 1);
        check.due("then the class behind it", x.serve(), 0);
    }

    void aTurnLastsWhileAnotherClassIsServed() {
        SharedQueues x = new SharedQueues();
        x.kind(0, 1, 10);
        pushCosts(x, 0, 4, 4, 4);
        pushCosts(x, 1, 1);
        x.kind(2, 1, 10);
        pushCosts(x, 2, 4);
        x.serve();
        x.serve();
        queueIs("0 has its turn", x, 0, 2, 1, 10, 96, 0, 6, 1, 0);
        pushCosts(x, 1, 3, 3);
        check.due("class 0", x.serve(), 1);
        queueIs("0 has it still", x, 0, 2, 1, 10, 96, 0, 6, 1, 0);
        x.serve();
        check.due("0 is served by the same turn", x.serve(), 0);
        check.due("without its quantum again", x.told(0, 5), 2);
    }

    // "if it has no TURN, it gets one, and its deficit grows by its quantum"; "the deficit is that less (and the turn stays)"

    void aTurnGrowsTheDeficitOnce() {
        SharedQueues x = new SharedQueues();
        x.kind(0, 0, 10);
        pushCosts(x, 0, 3, 3, 3, 1);
        pushCosts(x, 1, 1);
        int[] deficits = {7, 4, 1};
        for (int deficit : deficits) {
            check.due("serve", x.serve(), 0);
            check.due("deficit", x.told(0, 5), deficit);
            check.due("the turn stays", x.told(0, 6), 1);
            check.due("at the front", x.told(0, 7), 0);
        }
        check.due("down to the last", x.serve(), 0);
    }

    // "If its first item's cost is not above its deficit: that item is served"

    void aCostAsGreatAsTheDeficitIsServed() {
        SharedQueues x = new SharedQueues();
        x.kind(0, 0, 10);
        pushCosts(x, 0, 10, 1);
        pushCosts(x, 1, 1);
        check.due("10 of 10", x.serve(), 0);
        queueIs("deficit 0, and the turn stays", x, 0, 1, 0, 10, 96, 0, 0, 1, 0);
        check.due("1 of 0: its turn is over", x.serve(), 1);
        queueIs("the turn is over", x, 0, 1, 0, 10, 96, 0, 0, 0, 0);
    }

    // "else its turn is over, it goes to the ring's end, its deficit staying, and the next one is looked at"

    void aCostOneAboveTheDeficitIsNotServed() {
        SharedQueues x = new SharedQueues();
        x.kind(0, 0, 10);
        pushCosts(x, 0, 11);
        pushCosts(x, 1, 1, 1);
        check.due("11 of 10: 1", x.serve(), 1);
        queueIs("0 at the end with its deficit and no turn", x, 0, 1, 0, 10, 96, 0, 10, 0, 1);
        queueIs("1 at the front with a turn", x, 1, 1, 0, 1, 96, 0, 0, 1, 0);
        check.due("11 of 20", x.serve(), 0);
        check.due("1 had its turn over", x.told(1, 6), 0);
    }

    void aQueueAloneIsItsRingsEnd() {
        SharedQueues x = new SharedQueues();
        x.kind(0, 2, 1000);
        pushCosts(x, 0, 1001, 999, 1, 2000, 1);
        check.due("serve", x.serve(), 0);
        queueIs("two turns for 1001", x, 0, 4, 2, 1000, 96, 0, 999, 1, 0);
        check.due("serve", x.serve(), 0);
        queueIs("none for 999", x, 0, 3, 2, 1000, 96, 0, 0, 1, 0);
        check.due("serve", x.serve(), 0);
        queueIs("one for 1", x, 0, 2, 2, 1000, 96, 0, 999, 1, 0);
        check.due("serve", x.serve(), 0);
        queueIs("two for 2000", x, 0, 1, 2, 1000, 96, 0, 999, 1, 0);
    }

    void theSmallestQuantumPaysTheGreatestCost() {
        SharedQueues x = new SharedQueues();
        for (int q = 0; q < 12; q++) {
            pushCosts(x, q, 2000, 2000);
        }
        check.due("the first in the 2000th round", x.serve(), 0);
        queueIs("0", x, 0, 1, 0, 1, 96, 0, 0, 1, 0);
        queueIs("11", x, 11, 1 + 1, 0, 1, 96, 0, 1999, 0, 11);
        check.due("then the next", x.serve(), 1);
        queueIs("0", x, 0, 1, 0, 1, 96, 0, 0, 0, 11);
    }

    void theLastOfTheRingMayBeTheFirstServed() {
        SharedQueues x = new SharedQueues();
        x.kind(11, 0, 2);
        for (int q = 0; q < 12; q++) {
            pushCosts(x, q, 2, 2);
        }
        check.due("eleven are looked at in vain", x.serve(), 11);
        queueIs("11 at the front", x, 11, 1, 0, 2, 96, 0, 0, 1, 0);
        for (int q = 0; q < 11; q++) {
            queueIs("in vain", x, q, 2, 0, 1, 96, 0, 1, 0, q + 1);
        }
        check.due("0 has 2 in its second turn", x.serve(), 0);
        queueIs("11 at the end", x, 11, 1, 0, 2, 96, 0, 0, 0, 11);
    }

    void theRingGoesRoundMoreThanOnce() {
        SharedQueues x = new SharedQueues();
        x.kind(0, 0, 3);
        x.kind(1, 0, 4);
        x.kind(2, 0, 5);
        pushCosts(x, 0, 14, 1);
        pushCosts(x, 1, 13, 1);
        pushCosts(x, 2, 16, 1);
        check.due("1 has 16 in the fourth round", x.serve(), 1);
        queueIs("0 had four turns", x, 0, 2, 0, 3, 96, 0, 12, 0, 2);
        queueIs("1 is in its fourth", x, 1, 1, 0, 4, 96, 0, 3, 1, 0);
        queueIs("2 had three", x, 2, 2, 0, 5, 96, 0, 15, 0, 1);
    }

    void noClassHasARing() {
        SharedQueues x = busy();
        for (int q = 0; q < 12; q++) {
            x.empty(q);
        }
        int[] before = State.of(x);
        check.due("serve", x.serve(), -1);
        check.due("next", x.next(), -1);
        check.due("serveUpTo", x.serveUpTo(100000), 0);
        unchanged("serving of none", x, before);
    }

    // "When a queue's class changes, it leaves its ring, and comes to the end of the other, with no turn, its deficit staying"

    void aClassChangeBringsToTheEndOfTheOtherRing() {
        SharedQueues x = new SharedQueues();
        for (int q = 0; q < 3; q++) {
            x.kind(q, 0, 10);
            pushCosts(x, q, 4, 4, 20);
        }
        x.kind(3, 3, 10);
        pushCosts(x, 3, 4);
        x.serve();
        x.kind(0, 3, 20);
        queueIs("0 with no turn, its deficit staying", x, 0, 2, 3, 20, 96, 0, 6, 0, 1);
        queueIs("3 stays at the front", x, 3, 1, 3, 10, 96, 0, 0, 0, 0);
        queueIs("1 comes to the front", x, 1, 3, 0, 10, 96, 0, 0, 0, 0);
        queueIs("2 behind it", x, 2, 3, 0, 10, 96, 0, 0, 0, 1);
        x.empty(1);
        x.empty(2);
        x.empty(3);
        check.due("serve", x.serve(), 0);
        check.due("its turn adds the quantum to the deficit that stayed", x.told(0, 5), 6 + 20 - 4);
    }

    void aDeficitThatStaysBringsNoneForward() {
        SharedQueues x = new SharedQueues();
        x.kind(0, 0, 1000);
        pushCosts(x, 0, 1, 1, 1);
        x.serve();
        x.kind(1, 1, 1);
        pushCosts(x, 1, 1, 1);
        x.kind(0, 1, 1);
        queueIs("999 are more than many turns give", x, 0, 2, 1, 1, 96, 0, 999, 0, 1);
        check.due("it waits for its place all the same", x.serve(), 1);
        check.due("then it is served", x.serve(), 0);
        queueIs("by one turn more", x, 0, 1, 1, 1, 96, 0, 999, 1, 0);
    }

    void aClassChangeOfTheLastOfARing() {
        SharedQueues x = new SharedQueues();
        for (int q = 0; q < 3; q++) {
            x.push(q, 1, 1);
        }
        x.kind(2, 1, 1);
        check.due("alone in the other ring", x.told(2, 7), 0);
        check.due("0 stays", x.told(0, 7), 0);
        check.due("1 stays", x.told(1, 7), 1);
        x.kind(2, 0, 1);
        check.due("back at the end", x.told(2, 7), 2);
    }

    void aClassChangeOfTheOnlyOneOfARing() {
        SharedQueues x = new SharedQueues();
        x.kind(0, 0, 9);
        pushCosts(x, 0, 4, 4);
        x.serve();
        x.kind(0, 3, 9);
        queueIs("alone in the other ring", x, 0, 1, 3, 9, 96, 0, 5, 0, 0);
        pushCosts(x, 1, 1);
        check.due("its old class is served before", x.serve(), 1);
        check.due("then it", x.serve(), 0);
    }

    void aClassChangeWithoutItems() {
        SharedQueues x = new SharedQueues();
        x.push(1, 1, 1);
        x.kind(0, 1, 5);
        queueIs("in no ring", x, 0, 0, 1, 5, 96, 0, 0, 0, -1);
        check.due("1 stays", x.told(1, 7), 0);
        x.kind(1, 1, 5);
        x.push(0, 1, 1);
        check.due("it comes to the end with its first item", x.told(0, 7), 1);
    }

    void theSameClassIsNoChange() {
        SharedQueues x = new SharedQueues();
        x.kind(0, 0, 9);
        pushCosts(x, 0, 4, 4, 9);
        pushCosts(x, 1, 4);
        x.serve();
        x.kind(0, 0, 2);
        queueIs("place, turn and deficit stay", x, 0, 2, 0, 2, 96, 0, 5, 1, 0);
    }
}
