import java.util.ArrayList;
import java.util.List;

/**
 * The document's words step by step, one look at a time, with lists and copies: slow and plain.
 * Arguments are taken to be right; the tests of wrong ones stand in PromisesTest.
 */
final class PlainModel {
    static final class Q {
        int kind, quantum = 1, quota = 96, kept, deficit, pushed, lost, served, servedCosts;
        boolean turn;
        final List<int[]> items = new ArrayList<>();

        int excess() {
            return items.size() - kept;
        }

        int costs() {
            int sum = 0;
            for (int[] item : items) {
                sum += item[1];
            }
            return sum;
        }

        Q copy() {
            Q c = new Q();
            c.kind = kind;
            c.quantum = quantum;
            c.quota = quota;
            c.kept = kept;
            c.deficit = deficit;
            c.pushed = pushed;
            c.lost = lost;
            c.served = served;
            c.servedCosts = servedCosts;
            c.turn = turn;
            c.items.addAll(items);
            return c;
        }
    }

    final Q[] qs = new Q[12];
    final List<List<Q>> rings = new ArrayList<>();
    int word, lastCost, served, lost, over, full;

    PlainModel() {
        for (int i = 0; i < 12; i++) {
            qs[i] = new Q();
        }
        for (int c = 0; c < 4; c++) {
            rings.add(new ArrayList<>());
        }
    }

    PlainModel copy() {
        PlainModel c = new PlainModel();
        for (int i = 0; i < 12; i++) {
            c.qs[i] = qs[i].copy();
        }
        for (int r = 0; r < 4; r++) {
            for (Q q : rings.get(r)) {
                c.rings.get(r).add(c.qs[numberOf(q)]);
            }
        }
        c.word = word;
        c.lastCost = lastCost;
        c.served = served;
        c.lost = lost;
        c.over = over;
        c.full = full;
        return c;
    }

    int numberOf(Q q) {
        for (int i = 0; i < 12; i++) {
            if (qs[i] == q) {
                return i;
            }
        }
        return -1;
    }

    int kept() {
        int sum = 0;
        for (Q q : qs) {
            sum += q.kept;
        }
        return sum;
    }

    int free() {
        int free = 96;
        for (Q q : qs) {
            free -= q.items.size();
        }
        return free;
    }

    int open() {
        int open = free();
        for (Q q : qs) {
            if (q.excess() < 0) {
                open -= -q.excess();
            }
        }
        return open;
    }

    /** Answers -9 where more than 96 would be kept. */
    int quota(int queue, int quota, int kept) {
        if (kept() - qs[queue].kept + kept > 96) {
            return -9;
        }
        qs[queue].quota = quota;
        qs[queue].kept = kept;
        return kept();
    }

    void kind(int queue, int kind, int quantum) {
        Q q = qs[queue];
        q.quantum = quantum;
        if (q.kind == kind) {
            return;
        }
        if (rings.get(q.kind).remove(q)) {
            rings.get(kind).add(q);
        }
        q.turn = false;
        q.kind = kind;
    }

    int push(int queue, int word, int cost) {
        Q q = qs[queue];
        if (q.items.size() >= q.quota) {
            over++;
            return -2;
        }
        int loser = 100;
        boolean comes = free() > 0 && q.excess() < 0 || free() > 0 && open() > 0;
        if (!comes) {
            int greatest = Integer.MIN_VALUE;
            for (int i = 11; i >= 0; i--) {
                if (qs[i].excess() >= greatest) {
                    greatest = qs[i].excess();
                    loser = i;
                }
            }
            if (greatest < q.excess() + 2) {
                full++;
                return -3;
            }
            Q l = qs[loser];
            l.items.remove(l.items.size() - 1);
            l.lost++;
            lost++;
            leaveIfWithoutItems(l);
        }
        q.items.add(new int[] {word, cost});
        q.pushed++;
        if (q.items.size() == 1) {
            q.deficit = 0;
            q.turn = false;
            rings.get(q.kind).add(q);
        }
        return loser;
    }

    private void leaveIfWithoutItems(Q q) {
        if (q.items.isEmpty()) {
            rings.get(q.kind).remove(q);
            q.deficit = 0;
            q.turn = false;
        }
    }

    int serve() {
        for (List<Q> ring : rings) {
            if (!ring.isEmpty()) {
                return serveOf(ring);
            }
        }
        return -1;
    }

    private int serveOf(List<Q> ring) {
        while (true) {
            Q q = ring.get(0);
            if (!q.turn) {
                q.turn = true;
                q.deficit += q.quantum;
            }
            int cost = q.items.get(0)[1];
            if (cost <= q.deficit) {
                word = q.items.remove(0)[0];
                lastCost = cost;
                q.deficit -= cost;
                q.served++;
                q.servedCosts += cost;
                served++;
                leaveIfWithoutItems(q);
                return numberOf(q);
            }
            q.turn = false;
            ring.add(ring.remove(0));
        }
    }

    int next() {
        return copy().serve();
    }

    int serveUpTo(int most) {
        int rest = most;
        int n = 0;
        while (true) {
            PlainModel tried = copy();
            if (tried.serve() == -1 || tried.lastCost > rest) {
                return n;
            }
            serve();
            rest -= lastCost;
            n++;
        }
    }

    int empty(int queue) {
        int n = qs[queue].items.size();
        qs[queue].items.clear();
        leaveIfWithoutItems(qs[queue]);
        return n;
    }

    int told(int queue, int what) {
        Q q = qs[queue];
        int[] row = {q.items.size(), q.kind, q.quantum, q.quota, q.kept, q.deficit, q.turn ? 1 : 0,
            rings.get(q.kind).indexOf(q), q.pushed, q.lost, q.served, q.servedCosts, q.costs()};
        return row[what];
    }

    int all(int what) {
        int[] row = {free(), open(), kept(), served, lost, over, full};
        return row[what];
    }

    /** In the order of State.of. */
    int[] state() {
        int[] row = new int[12 * 13 + 7 + 2 + 2 * 96];
        int n = 0;
        for (int q = 0; q < 12; q++) {
            for (int what = 0; what <= 12; what++) {
                row[n++] = told(q, what);
            }
        }
        for (int what = 0; what <= 6; what++) {
            row[n++] = all(what);
        }
        row[n++] = word;
        row[n++] = next();
        for (Q q : qs) {
            for (int[] item : q.items) {
                row[n++] = item[0];
                row[n++] = item[1];
            }
        }
        return row;
    }
}
