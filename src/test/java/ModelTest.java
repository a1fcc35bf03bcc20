import java.util.Random;

/** Long runs of calls, the same ones each time, on the class and on the plain model, compared after every call. */
public final class ModelTest {
    private static final int RUNS = 400;
    private static final int CALLS = 512;

    private final Check check = new Check();

    public static void main(String[] args) {
        ModelTest test = new ModelTest();
        for (int run = 0; run < RUNS && !test.check.failed(); run++) {
            test.run(run);
        }
        test.check.end();
    }

    private void run(int number) {
        Random random = new Random(number);
        SharedQueues x = new SharedQueues();
        PlainModel model = new PlainModel();
        int queues = 1 + random.nextInt(12);
        int mostCost = new int[] {3, 50, 2000}[random.nextInt(3)];
        int mostQuantum = new int[] {1, 20, 1000}[random.nextInt(3)];
        int pushes = 5 + random.nextInt(15);
        for (int call = 0; call < CALLS && !check.failed(); call++) {
            String what = "run " + number + ", call " + call + ", " + call(random, x, model, queues, mostCost, mostQuantum, pushes);
            String difference = State.firstDifference(State.of(x), model.state());
            if (difference != null) {
                System.out.println(what + ": " + difference);
                check.due(what, 1, 0);
            }
        }
    }

    private String call(Random random, SharedQueues x, PlainModel model, int queues, int mostCost, int mostQuantum, int pushes) {
        int queue = random.nextInt(queues);
        int kind = random.nextInt(pushes + 8);
        String name;
        if (kind == 0) {
            int quota = random.nextInt(4) == 0 ? random.nextInt(30) : 96;
            int kept = random.nextInt(4) == 0 ? random.nextInt(97) : random.nextInt(20);
            name = "quota(" + queue + ", " + quota + ", " + kept + ")";
            int want = model.quota(queue, quota, kept);
            if (want == -9) {
                check.illegal(name, () -> x.quota(queue, quota, kept));
            } else {
                check.due(name, x.quota(queue, quota, kept), want);
            }
        } else if (kind == 1) {
            int toClass = random.nextInt(4);
            int quantum = random.nextInt(4) == 0 ? mostQuantum : 1 + random.nextInt(mostQuantum);
            name = "kind(" + queue + ", " + toClass + ", " + quantum + ")";
            model.kind(queue, toClass, quantum);
            x.kind(queue, toClass, quantum);
        } else if (kind == 2) {
            int most = random.nextInt(4 * mostCost);
            name = "serveUpTo(" + most + ")";
            check.due(name, x.serveUpTo(most), model.serveUpTo(most));
        } else if (kind == 3 && random.nextInt(4) == 0) {
            name = "empty(" + queue + ")";
            check.due(name, x.empty(queue), model.empty(queue));
        } else if (kind == 3) {
            name = "wrong inputs";
            wrongInputs(random, x, queue);
        } else if (kind < 7) {
            name = "serve()";
            check.due(name, x.serve(), model.serve());
        } else {
            int word = random.nextInt();
            int cost = random.nextInt(8) == 0 ? mostCost : 1 + random.nextInt(mostCost);
            name = "push(" + queue + ", " + word + ", " + cost + ")";
            check.due(name, x.push(queue, word, cost), model.push(queue, word, cost));
        }
        return name;
    }

    /** None of them may change anything: the model is not told of them. */
    private void wrongInputs(Random random, SharedQueues x, int queue) {
        int noQueue = random.nextBoolean() ? -1 - random.nextInt(20) : 12 + random.nextInt(20);
        int above = 1 + random.nextInt(20);
        check.illegal("quota", () -> x.quota(queue, 96 + above, 0));
        check.illegal("quota", () -> x.quota(queue, 96, -above));
        check.illegal("quota", () -> x.quota(noQueue, 96, 0));
        check.illegal("kind", () -> x.kind(queue, 3 + above, 1));
        check.illegal("kind", () -> x.kind(queue, 0, 1 - above));
        check.illegal("kind", () -> x.kind(noQueue, 0, 1));
        check.illegal("push", () -> x.push(queue, 1, 2000 + above));
        check.illegal("push", () -> x.push(queue, 1, 1 - above));
        check.illegal("push", () -> x.push(noQueue, 1, 1));
        check.illegal("serveUpTo", () -> x.serveUpTo(-above));
        check.illegal("serveUpTo", () -> x.serveUpTo(100000 + above));
        check.illegal("empty", () -> x.empty(noQueue));
        check.illegal("told", () -> x.told(queue, 12 + above));
        check.illegal("item", () -> x.item(queue, 0, 1 + above));
        check.outOfBounds("item", () -> x.item(queue, x.told(queue, 0), 0));
        check.illegal("all", () -> x.all(6 + above));
    }
}
