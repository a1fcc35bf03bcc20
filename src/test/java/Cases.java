import java.lang.reflect.Method;
import java.util.Arrays;
import java.util.Comparator;

/** What the tests that are written call by call have in common; each method without arguments is one of them. */
abstract class Cases {
    static final int MIN = Integer.MIN_VALUE, MAX = Integer.MAX_VALUE;
    static final int[] NO_QUEUES = {-1, 12, MIN, MAX};

    final Check check = new Check();

    /** Finds the tests by itself, so that none is written and then forgotten. */
    final void runAll() {
        Method[] tests = getClass().getDeclaredMethods();
        Arrays.sort(tests, Comparator.comparing(Method::getName));
        int run = 0;
        for (Method test : tests) {
            if (test.getParameterCount() == 0 && test.getReturnType() == void.class && !test.isSynthetic()) {
                runOne(test);
                run++;
            }
        }
        check.due("there are tests to run (1), or none (0)", run > 0 ? 1 : 0, 1);
        check.end();
    }

    private void runOne(Method test) {
        int before = check.wrong();
        try {
            test.invoke(this);
        } catch (ReflectiveOperationException e) {
            check.due(test.getName() + " ended by " + e.getCause(), 1, 0);
        }
        if (check.wrong() > before) {
            System.out.println("^ in " + test.getName());
        }
    }

    /** An object in the midst of its work: kept cells, several classes, deficits, a turn, items lost and refused. */
    static SharedQueues busy() {
        SharedQueues x = new SharedQueues();
        x.quota(0, 50, 10);
        x.quota(1, 4, 2);
        x.quota(2, 96, 5);
        for (int q = 0; q < 10; q++) {
            x.kind(q, 1 + q % 3, 1 + 7 * q);
        }
        for (int i = 0; i < 130; i++) {
            x.push(i * i % 10, i, 1 + i * 13 % 60);
        }
        for (int i = 0; i < 9; i++) {
            x.serve();
        }
        x.push(0, 5, 5);
        return x;
    }

    static void pushMany(SharedQueues x, int queue, int n) {
        for (int i = 0; i < n; i++) {
            x.push(queue, i, i < 96 ? i + 1 : 1);
        }
    }

    static void pushCosts(SharedQueues x, int queue, int... costs) {
        for (int cost : costs) {
            x.push(queue, cost, cost);
        }
    }

    final void queueIs(String when, SharedQueues x, int queue, int... want) {
        for (int what = 0; what < want.length; what++) {
            check.due(when + ": told(" + queue + ", " + what + ")", x.told(queue, what), want[what]);
        }
    }

    final void allIs(String when, SharedQueues x, int... want) {
        for (int what = 0; what < want.length; what++) {
            check.due(when + ": all(" + what + ")", x.all(what), want[what]);
        }
    }

    final void unchanged(String call, SharedQueues x, int[] before) {
        int[] now = State.of(x);
        if (!Arrays.equals(now, before)) {
            System.out.println(call + " changed something: " + State.firstDifference(now, before));
        }
        check.due(call + " leaves all as it was (1), or not (0)", Arrays.equals(now, before) ? 1 : 0, 1);
    }
}
