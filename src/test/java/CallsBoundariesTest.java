/** The boundary cases of promises 1 to 12, and the sentence that a refused call changes nothing: a test for each. */
public final class CallsBoundariesTest extends Cases {
    private static final int REFUSED_AS_OVER = 12 * 13 + 5, REFUSED_AS_FULL = 12 * 13 + 6;

    public static void main(String[] args) {
        new CallsBoundariesTest().runAll();
    }

    // Promise 1: "All queues as at first, without items."

    void p01ANewObjectHasNothingToServe() {
        SharedQueues x = new SharedQueues();
        int[] before = State.of(x);
        check.due("serve", x.serve(), -1);
        check.due("next", x.next(), -1);
        check.due("word", x.word(), 0);
        check.due("serveUpTo", x.serveUpTo(100000), 0);
        for (int q = 0; q < 12; q++) {
            int queue = q;
            check.due("empty", x.empty(q), 0);
            check.outOfBounds("item", () -> x.item(queue, 0, 0));
            queueIs("at first", x, q, 0, 0, 1, 96, 0, 0, 0, -1, 0, 0, 0, 0, 0);
        }
        unchanged("a new object", x, before);
    }

    void p01AnotherNewObjectIsAsAtFirst() {
        int[] before = State.of(new SharedQueues());
        busy().serveUpTo(100000);
        unchanged("an object made before", new SharedQueues(), before);
    }

    // Promise 2: "A queue's quota and kept cells (items that it has stay)."

    void p02ItemsStayUnderTheLeastQuota() {
        SharedQueues x = new SharedQueues();
        pushMany(x, 0, 96);
        x.serve();
        x.quota(0, 0, 0);
        check.due("items", x.told(0, 0), 95);
        check.due("the first", x.item(0, 0, 0), 1);
        check.due("the last", x.item(0, 94, 0), 95);
        check.due("place", x.told(0, 7), 0);
        check.due("turn", x.told(0, 6), 1);
        check.due("lost", x.all(4), 0);
        check.due("they are served", x.serve(), 0);
    }

    void p02ItemsStayWhereMoreIsKeptThanIsFree() {
        SharedQueues x = new SharedQueues();
        pushMany(x, 0, 96);
        check.due("96 kept for another", x.quota(1, 96, 96), 96);
        check.due("items", x.told(0, 0), 96);
        check.due("lost", x.all(4), 0);
    }

    void p02TheQuotaMayBeBelowWhatIsKept() {
        SharedQueues x = new SharedQueues();
        check.due("quota 0, kept 96", x.quota(0, 0, 96), 96);
        check.due("quota", x.told(0, 3), 0);
        check.due("kept", x.told(0, 4), 96);
    }

    // "Answers how many cells are kept in all."

    void p02AnswersNoneAndAllKept() {
        SharedQueues x = new SharedQueues();
        check.due("none", x.quota(0, 96, 0), 0);
        check.due("some", x.quota(0, 96, 40), 40);
        check.due("all", x.quota(11, 96, 56), 96);
        check.due("in all", x.all(2), 96);
        check.due("less", x.quota(0, 96, 0), 56);
        check.due("none", x.quota(11, 96, 0), 0);
    }

    // "IllegalArgumentException: there is no such queue, one is out of its range, or more than 96 would be kept in all."

    void p02RefusesEachAloneAndTogether() {
        SharedQueues x = busy();
        int[] before = State.of(x);
        check.illegal("no such queue", () -> x.quota(12, 96, 0));
        check.illegal("quota too small", () -> x.quota(3, -1, 0));
        check.illegal("quota too large", () -> x.quota(3, 97, 0));
        check.illegal("kept too small", () -> x.quota(3, 96, -1));
        check.illegal("kept too small, which would make all of them less", () -> x.quota(0, 96, -1));
        check.illegal("kept too large", () -> x.quota(3, 96, 97));
        check.illegal("kept so large that a sum of it wraps", () -> x.quota(3, 96, MAX));
        check.illegal("97 in all", () -> x.quota(3, 96, 97 - 17));
        check.illegal("both", () -> x.quota(-1, 97, -1));
        unchanged("quota", x, before);
        check.due("96 in all", x.quota(3, 96, 96 - 17), 96);
    }

    // Promise 3: "A queue's class and quantum."

    void p03TheLeastAndTheGreatest() {
        SharedQueues x = new SharedQueues();
        x.kind(0, 3, 1000);
        queueIs("greatest", x, 0, 0, 3, 1000);
        x.kind(0, 0, 1);
        queueIs("least", x, 0, 0, 0, 1);
    }

    void p03AQuantumCountsFromTheNextTurnOn() {
        SharedQueues x = new SharedQueues();
        x.kind(0, 0, 5);
        pushCosts(x, 0, 1, 1, 1000);
        x.serve();
        x.kind(0, 0, 1000);
        check.due("the deficit of this turn stays", x.told(0, 5), 4);
        x.serve();
        check.due("and is used", x.told(0, 5), 3);
        pushCosts(x, 0, 1);
        x.serve();
        check.due("the next turn adds the new one", x.told(0, 5), 3);
    }

    // "IllegalArgumentException: there is no such queue, or one is out of its range."

    void p03RefusesEachAloneAndTogether() {
        SharedQueues x = busy();
        int[] before = State.of(x);
        check.illegal("no such queue", () -> x.kind(-1, 0, 1));
        check.illegal("no such queue", () -> x.kind(12, 0, 1));
        check.illegal("class too small", () -> x.kind(0, -1, 1));
        check.illegal("class too large", () -> x.kind(0, 4, 1));
        check.illegal("quantum too small", () -> x.kind(0, 3, 0));
        check.illegal("quantum too large", () -> x.kind(0, 3, 1001));
        check.illegal("all", () -> x.kind(12, 4, 1001));
        unchanged("kind", x, before);
    }

    // Promise 4: "Answers the queue that lost one for it, or 100 when none did; OVER, FULL."

    void p04TheFirstAndTheLastQueueMayBeTheAnswer() {
        SharedQueues x = new SharedQueues();
        pushMany(x, 0, 96);
        check.due("the first", x.push(11, 1, 1), 0);
        SharedQueues y = new SharedQueues();
        pushMany(y, 11, 96);
        check.due("the last", y.push(0, 1, 1), 11);
    }

    void p04TheFourKindsOfAnswer() {
        SharedQueues x = new SharedQueues();
        x.quota(1, 1, 0);
        check.due("none lost one", x.push(1, 1, 1), 100);
        check.due("OVER", x.push(1, 1, 1), SharedQueues.OVER);
        pushMany(x, 0, 95);
        check.due("FULL", x.push(0, 1, 1), SharedQueues.FULL);
        check.due("0 lost one", x.push(2, 1, 1), 0);
        allIs("after", x, 0, 0, 0, 0, 1, 1, 1);
        queueIs("pushed", x, 1, 1, 0, 1, 1, 0, 0, 0, 0, 1);
        queueIs("pushed, one of them lost", x, 0, 94, 0, 1, 96, 0, 0, 0, 1, 95, 1);
    }

    // "IllegalArgumentException: there is no such queue, or cost is not 1 to 2000."

    void p04RefusesWhereItWouldComeAndWhereNot() {
        SharedQueues x = new SharedQueues();
        refusesPushes(x);
        x.quota(0, 0, 0);
        refusesPushes(x);
        x.quota(0, 96, 0);
        pushMany(x, 1, 96);
        refusesPushes(x);
        check.due("the least cost", x.push(0, 1, 1), 1);
        check.due("the greatest", x.push(0, 1, 2000), 1);
    }

    private void refusesPushes(SharedQueues x) {
        int[] before = State.of(x);
        check.illegal("no such queue", () -> x.push(-1, 1, 1));
        check.illegal("no such queue", () -> x.push(12, 1, 1));
        for (int wrong : new int[] {MIN, -1, 0, 2001, MAX}) {
            check.illegal("cost " + wrong, () -> x.push(0, 1, wrong));
            check.illegal("cost " + wrong, () -> x.push(1, 1, wrong));
            check.illegal("cost " + wrong + " and no such queue", () -> x.push(12, 1, wrong));
        }
        unchanged("push", x, before);
    }

    // Promise 5: "Answers its queue; NONE when there is none."

    void p05TheLastOneThenNone() {
        SharedQueues x = new SharedQueues();
        x.push(11, 4, 2000);
        check.due("the last one", x.serve(), 11);
        int[] before = State.of(x);
        check.due("none", x.serve(), SharedQueues.NONE);
        check.due("none again", x.serve(), SharedQueues.NONE);
        unchanged("serve of none", x, before);
        check.due("served", x.all(3), 1);
    }

    void p05QueueNoneIsNoNone() {
        SharedQueues x = new SharedQueues();
        x.push(0, 0, 1);
        check.due("next", x.next(), 0);
        check.due("serve", x.serve(), 0);
    }

    // Promise 6: "The queue that would be served next, and nothing changes; NONE."

    void p06NothingChangesWhereManyTurnsWouldBeGiven() {
        SharedQueues x = new SharedQueues();
        for (int q = 0; q < 12; q++) {
            pushCosts(x, q, 2000 - q);
        }
        int[] before = State.of(x);
        check.due("next", x.next(), 11);
        check.due("next again", x.next(), 11);
        unchanged("next", x, before);
        check.due("serve", x.serve(), 11);
    }

    void p06NoneOfNone() {
        SharedQueues x = new SharedQueues();
        x.push(0, 5, 1);
        x.serve();
        int[] before = State.of(x);
        check.due("next", x.next(), SharedQueues.NONE);
        unchanged("next of none", x, before);
    }

    // Promise 7: "The word served last (0 before)."

    void p07NoneBeforeTheFirstIsServed() {
        SharedQueues x = new SharedQueues();
        x.push(0, 5, 1);
        check.due("pushed", x.word(), 0);
        x.next();
        check.due("next", x.word(), 0);
        x.serveUpTo(0);
        check.due("none served", x.word(), 0);
        x.empty(0);
        check.due("gone", x.word(), 0);
        x.serve();
        check.due("none to serve", x.word(), 0);
    }

    void p07EveryWordIsToldAndStays() {
        SharedQueues x = new SharedQueues();
        int[] words = {MAX, 0, MIN, -1, 7};
        for (int word : words) {
            x.push(0, word, 1);
        }
        for (int word : words) {
            x.serve();
            check.due("served", x.word(), word);
        }
        x.serve();
        x.push(0, 9, 1);
        x.next();
        x.empty(0);
        check.due("the last stays", x.word(), 7);
    }

    void p07ALostWordIsNotServed() {
        SharedQueues x = new SharedQueues();
        x.push(0, 3, 1);
        x.serve();
        pushMany(x, 0, 96);
        x.push(1, 1, 1);
        check.due("word", x.word(), 3);
    }

    // Promise 8: "Items are served, as serve() does, as long as their costs together are not above most"

    void p08MostNoneServesNone() {
        SharedQueues x = busy();
        int[] before = State.of(x);
        check.due("none", x.serveUpTo(0), 0);
        unchanged("serveUpTo(0)", x, before);
    }

    void p08CostsAsGreatAsMostAreServed() {
        SharedQueues x = new SharedQueues();
        x.kind(0, 0, 100);
        pushCosts(x, 0, 1, 30, 70, 5);
        check.due("1 of 1", x.serveUpTo(1), 1);
        check.due("30 and 70 of 99", x.serveUpTo(99), 1);
        check.due("70 of 69", x.serveUpTo(69), 0);
        check.due("70 of 70", x.serveUpTo(70), 1);
        check.due("5 of 4", x.serveUpTo(4), 0);
        check.due("5 of 100000", x.serveUpTo(100000), 1);
        check.due("costs served", x.told(0, 11), 106);
    }

    void p08TheGreatestMost() {
        SharedQueues x = new SharedQueues();
        for (int i = 0; i < 51; i++) {
            x.push(0, i, 2000);
        }
        check.due("50 of 2000 are 100000", x.serveUpTo(100000), 50);
        check.due("the last served", x.word(), 49);
        check.due("the one left", x.serveUpTo(2000), 1);
        pushCosts(x, 0, 1);
        for (int i = 0; i < 50; i++) {
            x.push(0, i, 2000);
        }
        check.due("1 and 49 of 2000; with one more they would be 100001", x.serveUpTo(100000), 50);
        check.due("items left", x.told(0, 0), 1);
    }

    void p08AllItemsOfAllClassesThenNone() {
        SharedQueues x = new SharedQueues();
        for (int q = 0; q < 12; q++) {
            x.kind(q, q % 4, 1 + q);
            pushMany(x, q, 8);
        }
        check.due("all 96", x.serveUpTo(12 * 36), 96);
        check.due("none more", x.serveUpTo(100000), 0);
        allIs("after", x, 96, 96, 0, 96, 0, 0, 0);
    }

    // "(up to the first one with which they would be)"

    void p08NoneBehindTheFirstAboveIsServed() {
        SharedQueues x = new SharedQueues();
        x.kind(0, 0, 10);
        x.kind(1, 0, 10);
        x.kind(2, 1, 10);
        pushCosts(x, 0, 2, 9);
        pushCosts(x, 1, 1);
        pushCosts(x, 2, 1);
        check.due("2; 9 is not within 8, so it is 1's turn", x.serveUpTo(3), 2);
        check.due("9 is above 8", x.serveUpTo(8), 0);
        check.due("though 1 of a class behind would be within", x.told(2, 0), 1);
        check.due("9 and 1", x.serveUpTo(10), 2);
    }

    void p08TheOneAboveLeavesTurnsAndDeficits() {
        SharedQueues x = new SharedQueues();
        x.kind(0, 0, 10);
        pushCosts(x, 0, 4, 8);
        pushCosts(x, 1, 9);
        check.due("4; then 8 is above 3", x.serveUpTo(7), 1);
        queueIs("0 has its turn", x, 0, 1, 0, 10, 96, 0, 6, 1, 0);
        queueIs("1 has had none", x, 1, 1, 0, 1, 96, 0, 0, 0, 1);
    }

    void p08ServesAsServeDoes() {
        SharedQueues x = busy();
        SharedQueues y = busy();
        int costs = 0;
        for (int i = 0; i < 20; i++) {
            int queue = y.next();
            costs += y.item(queue, 0, 1);
            y.serve();
        }
        check.due("20 items", x.serveUpTo(costs), 20);
        unchanged("serveUpTo and as many serve", x, State.of(y));
    }

    // "IllegalArgumentException: most is not 0 to 100000."

    void p08RefusesMost() {
        SharedQueues x = busy();
        int[] before = State.of(x);
        for (int wrong : new int[] {MIN, -1, 100001, MAX}) {
            check.illegal("most " + wrong, () -> x.serveUpTo(wrong));
        }
        unchanged("serveUpTo", x, before);
        SharedQueues y = new SharedQueues();
        check.illegal("most -1 of none", () -> y.serveUpTo(-1));
        check.illegal("most 100001 of none", () -> y.serveUpTo(100001));
        check.due("most 0 of none", y.serveUpTo(0), 0);
        check.due("most 100000 of none", y.serveUpTo(100000), 0);
    }

    // Promise 9: "All items of a queue are gone. Answers how many."

    void p09NoneToGo() {
        SharedQueues x = busy();
        int[] before = State.of(x);
        check.due("of no items", x.empty(10), 0);
        check.due("of no items", x.empty(11), 0);
        unchanged("empty of none", x, before);
    }

    void p09OneAndAllCells() {
        SharedQueues x = new SharedQueues();
        x.push(0, 1, 2000);
        check.due("one", x.empty(0), 1);
        pushMany(x, 0, 96);
        check.due("96", x.empty(0), 96);
        check.due("none more", x.empty(0), 0);
        queueIs("gone, neither lost nor served", x, 0, 0, 0, 1, 96, 0, 0, 0, -1, 97, 0, 0, 0, 0);
        allIs("gone", x, 96, 96, 0, 0, 0, 0, 0);
        check.outOfBounds("the first", () -> x.item(0, 0, 0));
        check.due("next", x.next(), -1);
    }

    void p09OthersStay() {
        SharedQueues x = busy();
        int others = 96 - x.all(0) - x.told(4, 0);
        int deficit = x.told(7, 5);
        int kept = x.all(2);
        int items = x.told(4, 0);
        check.due("items", x.empty(4), items);
        check.due("free", x.all(0), 96 - others);
        check.due("a deficit in the same ring", x.told(7, 5), deficit);
        check.due("kept", x.all(2), kept);
    }

    // "IllegalArgumentException: there is no such queue."

    void p09RefusesNoQueue() {
        SharedQueues x = busy();
        int[] before = State.of(x);
        for (int q : NO_QUEUES) {
            check.illegal("empty " + q, () -> x.empty(q));
        }
        unchanged("empty", x, before);
    }

    // Promise 10: "its place in its ring, NONE in none (7)"

    void p10PlacesFromNoneTo11() {
        SharedQueues x = new SharedQueues();
        for (int q = 0; q < 12; q++) {
            check.due("in none", x.told(q, 7), SharedQueues.NONE);
            x.push(q, 1, 1);
            check.due("at the end", x.told(q, 7), q);
        }
        x.serve();
        check.due("in none again", x.told(0, 7), SharedQueues.NONE);
        check.due("the last", x.told(11, 7), 10);
    }

    // "items pushed (8), lost (9), served (10)"

    void p10CountsOfWhatCameAndWent() {
        SharedQueues x = new SharedQueues();
        x.quota(0, 95, 0);
        pushMany(x, 0, 95);
        check.due("refused as OVER", x.push(0, 1, 1), -2);
        check.due("the last cell", x.push(1, 1, 1), 100);
        check.due("0 loses", x.push(1, 1, 1), 0);
        check.due("refused as FULL", x.push(0, 1, 1), -3);
        check.due("serve", x.serve(), 0);
        queueIs("refused ones are not pushed", x, 0, 93, 0, 1, 95, 0, 0, 1, 0, 95, 1, 1, 1);
        queueIs("the other", x, 1, 2, 0, 1, 96, 0, 0, 0, 1, 2, 0, 0, 0, 2);
        x.empty(0);
        queueIs("counts stay where items go", x, 0, 0, 0, 1, 95, 0, 0, 0, -1, 95, 1, 1, 1, 0);
    }

    // "costs served, as an int (11), all its items' costs (12)"

    void p10TheGreatestCosts() {
        SharedQueues x = new SharedQueues();
        x.kind(0, 0, 1000);
        for (int i = 0; i < 96; i++) {
            x.push(0, i, 2000);
        }
        check.due("costs of 96 items", x.told(0, 12), 192000);
        for (int i = 0; i < 96; i++) {
            x.serve();
        }
        check.due("costs served", x.told(0, 11), 192000);
        check.due("costs of none", x.told(0, 12), 0);
        x.push(0, 1, 1);
        x.serve();
        check.due("costs served", x.told(0, 11), 192001);
    }

    // "IllegalArgumentException: there is no such queue, or another what."

    void p10WhatIs0To12() {
        for (SharedQueues x : new SharedQueues[] {new SharedQueues(), busy()}) {
            int[] before = State.of(x);
            for (int q = 0; q < 12; q++) {
                int queue = q;
                for (int wrong : new int[] {MIN, -1, 13, MAX}) {
                    check.illegal("told what " + wrong, () -> x.told(queue, wrong));
                }
            }
            for (int q : NO_QUEUES) {
                check.illegal("told of queue " + q, () -> x.told(q, 12));
                check.illegal("told of queue " + q + ", another what", () -> x.told(q, 13));
            }
            unchanged("told", x, before);
        }
    }

    // Promise 11: "The word (what = 0) or cost (1) of item k of a queue, from its first on."

    void p11TheFirstAndTheLastItem() {
        SharedQueues x = new SharedQueues();
        pushMany(x, 11, 96);
        check.due("first word", x.item(11, 0, 0), 0);
        check.due("first cost", x.item(11, 0, 1), 1);
        check.due("last word", x.item(11, 95, 0), 95);
        check.due("last cost", x.item(11, 95, 1), 96);
        check.outOfBounds("behind the last", () -> x.item(11, 96, 0));
        check.outOfBounds("before the first", () -> x.item(11, -1, 1));
    }

    void p11ItemsComeRoundAgainAndAgain() {
        SharedQueues x = new SharedQueues();
        x.kind(5, 0, 1000);
        int pushed = 0;
        for (int served = 0; served < 250; served++) {
            while (pushed < served + 1 + served % 90) {
                check.due("push", x.push(5, pushed, 1 + pushed % 7), 100);
                pushed++;
            }
            int last = x.told(5, 0) - 1;
            check.due("the first word", x.item(5, 0, 0), served);
            check.due("the last word", x.item(5, last, 0), pushed - 1);
            check.due("the last cost", x.item(5, last, 1), 1 + (pushed - 1) % 7);
            check.outOfBounds("behind the last", () -> x.item(5, last + 1, 0));
            x.serve();
            check.due("the word served", x.word(), served);
        }
    }

    void p11TheLastOfARowThatCameRoundIsLost() {
        SharedQueues x = new SharedQueues();
        x.kind(0, 0, 1000);
        pushMany(x, 0, 96);
        for (int i = 0; i < 2; i++) {
            x.serve();
            x.push(0, 1000 + i, 9);
        }
        for (int left = 95; left > 92; left--) {
            check.due("0 loses", x.push(1, 1, 1), 0);
            check.due("items", x.told(0, 0), left);
            check.due("the first", x.item(0, 0, 0), 2);
            check.due("the last", x.item(0, left - 1, 0), left == 95 ? 1000 : left + 1);
        }
        check.due("costs", x.told(0, 12), 96 * 97 / 2 - 1 - 2 - 96);
    }

    // "IllegalArgumentException: there is no such queue, or another what. IndexOutOfBoundsException: there is no such item."

    void p11RefusesByTheRightException() {
        SharedQueues x = new SharedQueues();
        pushMany(x, 3, 2);
        int[] before = State.of(x);
        for (int what = 0; what <= 1; what++) {
            int fine = what;
            for (int wrong : new int[] {MIN, -1, 2, 96, MAX}) {
                check.outOfBounds("item " + wrong, () -> x.item(3, wrong, fine));
                check.outOfBounds("item " + wrong + " of a queue without items", () -> x.item(4, wrong, fine));
            }
            check.outOfBounds("item 0 of a queue without items", () -> x.item(4, 0, fine));
        }
        for (int wrong : new int[] {MIN, -1, 2, MAX}) {
            check.illegal("what " + wrong, () -> x.item(3, 0, wrong));
            check.illegal("what " + wrong + " of no such item", () -> x.item(3, 2, wrong));
            check.illegal("what " + wrong + " of a queue without items", () -> x.item(4, 0, wrong));
        }
        for (int q : NO_QUEUES) {
            check.illegal("queue " + q, () -> x.item(q, 0, 0));
            check.illegal("queue " + q + ", no such item", () -> x.item(q, -1, 1));
            check.illegal("queue " + q + ", another what", () -> x.item(q, 0, 2));
        }
        unchanged("item", x, before);
    }

    void p11NoItemIsThereWhenItIsGone() {
        SharedQueues x = new SharedQueues();
        pushMany(x, 0, 2);
        x.serve();
        check.outOfBounds("served", () -> x.item(0, 1, 0));
        x.empty(0);
        check.outOfBounds("emptied", () -> x.item(0, 0, 0));
    }

    // Promise 12: "Free cells (what = 0), open ones (1, may be below 0), kept in all (2), items served (3), lost (4),
    // refused as OVER (5), FULL (6)."

    void p12TheLeastAndTheGreatest() {
        SharedQueues x = new SharedQueues();
        allIs("at first", x, 96, 96, 0, 0, 0, 0, 0);
        pushMany(x, 0, 96);
        allIs("full", x, 0, 0, 0, 0, 0, 0, 0);
        x.quota(1, 96, 96);
        allIs("all kept for another", x, 0, -96, 96, 0, 0, 0, 0);
        x.push(1, 1, 1);
        allIs("one lost for it", x, 0, -95, 96, 0, 1, 0, 0);
        x.empty(0);
        allIs("emptied", x, 95, 0, 96, 0, 1, 0, 0);
    }

    void p12EachRefusalIsCountedOnce() {
        SharedQueues x = new SharedQueues();
        x.quota(0, 1, 0);
        x.push(0, 1, 1);
        pushMany(x, 1, 95);
        for (int i = 1; i <= 5; i++) {
            x.push(0, 1, 1);
            x.push(1, 1, 1);
            allIs("refused", x, 0, 0, 0, 0, 0, i, i);
        }
    }

    // "IllegalArgumentException: another what."

    void p12WhatIs0To6() {
        for (SharedQueues x : new SharedQueues[] {new SharedQueues(), busy()}) {
            int[] before = State.of(x);
            for (int wrong : new int[] {MIN, -1, 7, MAX}) {
                check.illegal("all what " + wrong, () -> x.all(wrong));
            }
            unchanged("all", x, before);
        }
    }

    // "a call that throws, or answers below 0, changes nothing (but for what all() counts as refused)"

    void refusedOverChangesItsCountAlone() {
        SharedQueues x = busy();
        x.quota(7, 0, 0);
        int[] before = State.of(x);
        check.due("push", x.push(7, 1, 1), -2);
        before[REFUSED_AS_OVER]++;
        unchanged("OVER", x, before);
    }

    void refusedFullChangesItsCountAlone() {
        SharedQueues x = busy();
        x.quota(11, 96, 96 - x.all(2));
        for (int i = 0; x.push(11, i, 3) != -3 && i < 200; i++) {
            check.due("it fills up", i < 100 ? 1 : 0, 1);
        }
        int[] before = State.of(x);
        check.due("push", x.push(11, 1, 1), -3);
        before[REFUSED_AS_FULL]++;
        unchanged("FULL", x, before);
    }

    void thrownCallsChangeNothingInAnyState() {
        SharedQueues full = new SharedQueues();
        pushMany(full, 0, 96);
        SharedQueues emptied = busy();
        emptied.serveUpTo(100000);
        for (SharedQueues x : new SharedQueues[] {new SharedQueues(), busy(), full, emptied}) {
            int[] before = State.of(x);
            check.illegal("quota", () -> x.quota(0, 96, 97));
            check.illegal("kind", () -> x.kind(0, 1, 1001));
            check.illegal("push", () -> x.push(0, 1, 2001));
            check.illegal("serveUpTo", () -> x.serveUpTo(100001));
            check.illegal("empty", () -> x.empty(12));
            check.illegal("told", () -> x.told(0, 13));
            check.illegal("item", () -> x.item(0, 0, 2));
            check.outOfBounds("item", () -> x.item(0, 96, 0));
            check.illegal("all", () -> x.all(7));
            unchanged("a call that throws", x, before);
        }
    }

    void answersBelowNoneOfTellingCallsChangeNothing() {
        SharedQueues x = new SharedQueues();
        pushMany(x, 0, 96);
        x.quota(1, 96, 1);
        int[] before = State.of(x);
        check.due("place in no ring", x.told(1, 7), -1);
        check.due("open", x.all(1), -1);
        unchanged("telling", x, before);
    }

    // "An object is used for at most 512 calls after it has been made"

    void the512thCallAnswersStill() {
        SharedQueues x = new SharedQueues();
        int calls = 0;
        for (int i = 0; i < 255; i++) {
            check.due("push " + i, x.push(i % 12, i, 1), 100);
            check.due("serve " + i, x.serve(), i % 12);
            calls += 2;
        }
        check.due("word", x.word(), 254);
        check.due("the 512th: served", x.all(3), 255);
        check.due("calls", calls + 2, 512);
    }

    void pushesOf512Calls() {
        SharedQueues x = new SharedQueues();
        for (int i = 0; i < 510; i++) {
            check.due("push " + i, x.push(0, i, 2000), i < 96 ? 100 : -2);
        }
        check.due("refused", x.all(5), 510 - 96);
        check.due("costs", x.told(0, 12), 192000);
    }
}
