/**
 * Queues that share one store of cells, give way to one another when it is full,
 * and are served by classes, within a class in turns, each by its quantum.
 */
public final class SharedQueues {
    public static final int NONE = -1, OVER = -2, FULL = -3;

    private static final int QUEUES = 12;
    private static final int CELLS = 96;
    private static final int CLASSES = 4;
    private static final int MOST_QUANTUM = 1000;
    private static final int MOST_COST = 2000;
    private static final int MOST_SERVED_COST = 100000;
    private static final int NO_LOSER = 100;
    private static final int LEAST_LEAD_OF_LOSER = 2;

    private final Queue[] queues = new Queue[QUEUES];
    private final Ring[] rings = new Ring[CLASSES];
    private int lastWord;
    private int servedInAll;
    private int lostInAll;
    private int refusedAsOver;
    private int refusedAsFull;

    public SharedQueues() {
        for (int q = 0; q < QUEUES; q++) {
            queues[q] = new Queue();
        }
        for (int c = 0; c < CLASSES; c++) {
            rings[c] = new Ring();
        }
    }

    public int quota(int queue, int quota, int kept) throws IllegalArgumentException {
        Queue target = queueOf(queue);
        checkRange(quota, 0, CELLS);
        checkRange(kept, 0, CELLS);
        int keptInAll = keptCells() - target.kept + kept;
        checkRange(keptInAll, 0, CELLS);
        target.quota = quota;
        target.kept = kept;
        return keptInAll;
    }

    public void kind(int queue, int kind, int quantum) throws IllegalArgumentException {
        Queue target = queueOf(queue);
        checkRange(kind, 0, CLASSES - 1);
        checkRange(quantum, 1, MOST_QUANTUM);
        target.quantum = quantum;
        if (target.kind != kind) {
            changeClass(queue, target, kind);
        }
    }

    public int push(int queue, int word, int cost) throws IllegalArgumentException {
        Queue target = queueOf(queue);
        checkRange(cost, 1, MOST_COST);
        if (target.count >= target.quota) {
            refusedAsOver++;
            return OVER;
        }
        if (hasRoomFor(target)) {
            addItem(queue, target, word, cost);
            return NO_LOSER;
        }
        int loser = queueOfGreatestExcess();
        if (queues[loser].excess() - target.excess() < LEAST_LEAD_OF_LOSER) {
            refusedAsFull++;
            return FULL;
        }
        loseLastItem(loser);
        addItem(queue, target, word, cost);
        return loser;
    }

    public int serve() {
        Ring ring = firstRingWithQueues();
        if (ring == null) {
            return NONE;
        }
        int place = placeServedNext(ring);
        int queue = ring.queueAt(place);
        bringToFront(ring, place);
        serveFirstItem(queue);
        return queue;
    }

    public int next() {
        Ring ring = firstRingWithQueues();
        return ring == null ? NONE : ring.queueAt(placeServedNext(ring));
    }

    public int word() {
        return lastWord;
    }

    public int serveUpTo(int most) throws IllegalArgumentException {
        checkRange(most, 0, MOST_SERVED_COST);
        int rest = most;
        int served = 0;
        // No more items than there are cells can be waiting.
        while (served < CELLS) {
            int queue = next();
            if (queue == NONE) {
                break;
            }
            int cost = queues[queue].firstCost();
            if (cost > rest) {
                break;
            }
            rest -= cost;
            serve();
            served++;
        }
        return served;
    }

    public int empty(int queue) throws IllegalArgumentException {
        Queue target = queueOf(queue);
        int gone = target.count;
        if (gone > 0) {
            target.dropAll();
            leaveRing(queue, target);
        }
        return gone;
    }

    public int told(int queue, int what) throws IllegalArgumentException {
        Queue target = queueOf(queue);
        switch (what) {
            case 0:
                return target.count;
            case 1:
                return target.kind;
            case 2:
                return target.quantum;
            case 3:
                return target.quota;
            case 4:
                return target.kept;
            case 5:
                return target.deficit;
            case 6:
                return target.hasTurn ? 1 : 0;
            case 7:
                return rings[target.kind].placeOf(queue);
            case 8:
                return target.pushed;
            case 9:
                return target.lost;
            case 10:
                return target.served;
            case 11:
                return target.servedCosts;
            case 12:
                return target.costs;
            default:
                throw new IllegalArgumentException("no such what");
        }
    }

    public int item(int queue, int k, int what) throws IllegalArgumentException, IndexOutOfBoundsException {
        Queue target = queueOf(queue);
        checkRange(what, 0, 1);
        if (k < 0 || k >= target.count) {
            throw new IndexOutOfBoundsException("no such item");
        }
        return what == 0 ? target.wordAt(k) : target.costAt(k);
    }

    public int all(int what) throws IllegalArgumentException {
        switch (what) {
            case 0:
                return freeCells();
            case 1:
                return openCells();
            case 2:
                return keptCells();
            case 3:
                return servedInAll;
            case 4:
                return lostInAll;
            case 5:
                return refusedAsOver;
            case 6:
                return refusedAsFull;
            default:
                throw new IllegalArgumentException("no such what");
        }
    }

    private Queue queueOf(int queue) {
        if (queue < 0 || queue >= QUEUES) {
            throw new IllegalArgumentException("no such queue");
        }
        return queues[queue];
    }

    private static void checkRange(int value, int least, int most) {
        if (value < least || value > most) {
            throw new IllegalArgumentException("out of range");
        }
    }

    private int keptCells() {
        int sum = 0;
        for (Queue each : queues) {
            sum += each.kept;
        }
        return sum;
    }

    private int freeCells() {
        int free = CELLS;
        for (Queue each : queues) {
            free -= each.count;
        }
        return free;
    }

    private int openCells() {
        int open = freeCells();
        for (Queue each : queues) {
            open += Math.min(each.excess(), 0);
        }
        return open;
    }

    private boolean hasRoomFor(Queue target) {
        return freeCells() > 0 && (target.excess() < 0 || openCells() > 0);
    }

    private int queueOfGreatestExcess() {
        int greatest = 0;
        for (int q = 1; q < QUEUES; q++) {
            if (queues[q].excess() > queues[greatest].excess()) {
                greatest = q;
            }
        }
        return greatest;
    }

    private void addItem(int queue, Queue target, int word, int cost) {
        target.putLast(word, cost);
        target.pushed++;
        if (target.count == 1) {
            rings[target.kind].putAtEnd(queue);
        }
    }

    /**
     * It has an item to lose: where no queue has excess above 0, one with excess two below another's
     * finds a free cell, and nothing is lost.
     */
    private void loseLastItem(int queue) {
        Queue loser = queues[queue];
        loser.dropLast();
        loser.lost++;
        lostInAll++;
        if (loser.count == 0) {
            leaveRing(queue, loser);
        }
    }

    private void leaveRing(int queue, Queue target) {
        rings[target.kind].takeOut(queue);
        target.deficit = 0;
        target.hasTurn = false;
    }

    private void changeClass(int queue, Queue target, int kind) {
        if (target.count > 0) {
            rings[target.kind].takeOut(queue);
            rings[kind].putAtEnd(queue);
        }
        target.hasTurn = false;
        target.kind = kind;
    }

    private Ring firstRingWithQueues() {
        for (Ring ring : rings) {
            if (ring.size > 0) {
                return ring;
            }
        }
        return null;
    }

    /** The first place of those whose queues are looked at in vain least often. */
    private int placeServedNext(Ring ring) {
        int best = 0;
        int least = queues[ring.queueAt(0)].looksInVain();
        for (int place = 1; place < ring.size; place++) {
            int looks = queues[ring.queueAt(place)].looksInVain();
            if (looks < least) {
                least = looks;
                best = place;
            }
        }
        return best;
    }

    /**
     * Does at once all looks in vain before the queue at this place is served: a small quantum
     * and a great cost would need thousands of rounds, and whole rounds leave the ring's order.
     */
    private void bringToFront(Ring ring, int place) {
        int rounds = queues[ring.queueAt(place)].looksInVain();
        for (int p = 0; p < ring.size; p++) {
            queues[ring.queueAt(p)].lookInVain(p < place ? rounds + 1 : rounds);
        }
        ring.turnBy(place);
    }

    private void serveFirstItem(int queue) {
        Queue target = queues[queue];
        target.takeTurn();
        int cost = target.firstCost();
        lastWord = target.wordAt(0);
        target.deficit -= cost;
        target.servedCosts += cost;
        target.served++;
        servedInAll++;
        target.dropFirst();
        if (target.count == 0) {
            leaveRing(queue, target);
        }
    }

    /** A queue's settings, counts and items; the items stand in rows that are used round and round. */
    private static final class Queue {
        private final int[] wordRow = new int[CELLS];
        private final int[] costRow = new int[CELLS];
        private int start;
        private int count;
        private int costs;
        private int kind;
        private int quantum = 1;
        private int quota = CELLS;
        private int kept;
        private int deficit;
        private boolean hasTurn;
        private int pushed;
        private int lost;
        private int served;
        private int servedCosts;

        int excess() {
            return count - kept;
        }

        int wordAt(int k) {
            return wordRow[cellOf(k)];
        }

        int costAt(int k) {
            return costRow[cellOf(k)];
        }

        int firstCost() {
            return costRow[start];
        }

        void putLast(int word, int cost) {
            int cell = cellOf(count);
            wordRow[cell] = word;
            costRow[cell] = cost;
            costs += cost;
            count++;
        }

        void dropFirst() {
            costs -= firstCost();
            start = cellOf(1);
            count--;
        }

        void dropLast() {
            costs -= costAt(count - 1);
            count--;
        }

        void dropAll() {
            costs = 0;
            count = 0;
        }

        /** How often it is looked at, from now on, before its deficit reaches its first item's cost. */
        int looksInVain() {
            int deficitAtFirstLook = hasTurn ? deficit : deficit + quantum;
            int missing = firstCost() - deficitAtFirstLook;
            if (missing <= 0 || quantum <= 0) {
                return 0;
            }
            return (missing + quantum - 1) / quantum;
        }

        void lookInVain(int times) {
            if (times > 0) {
                int turnsTaken = hasTurn ? times - 1 : times;
                deficit += turnsTaken * quantum;
                hasTurn = false;
            }
        }

        void takeTurn() {
            if (!hasTurn) {
                hasTurn = true;
                deficit += quantum;
            }
        }

        private int cellOf(int k) {
            return Math.floorMod(start + k, CELLS);
        }
    }

    /** The queues of a class that have items, in the order in which they are looked at. */
    private static final class Ring {
        private final int[] order = new int[QUEUES];
        private int size;

        int queueAt(int place) {
            return order[place];
        }

        int placeOf(int queue) {
            for (int place = 0; place < size; place++) {
                if (order[place] == queue) {
                    return place;
                }
            }
            return NONE;
        }

        void putAtEnd(int queue) {
            if (size < QUEUES) {
                order[size] = queue;
                size++;
            }
        }

        void takeOut(int queue) {
            int place = placeOf(queue);
            if (place != NONE) {
                size--;
                System.arraycopy(order, place + 1, order, place, size - place);
            }
        }

        /** The first places go to the end, one after the other. */
        void turnBy(int places) {
            for (int turned = 0; turned < places; turned++) {
                int first = order[0];
                takeOut(first);
                putAtEnd(first);
            }
        }
    }
}
