import java.util.ArrayList;
import java.util.List;
import java.util.Random;

/** Calls by chance, the same for the same seed; mostly such as can be done, some with wrong arguments. */
final class RandomCalls {
    private static final String[] NAMES = {
        "put", "drop", "get", "replace", "arrive", "reply", "insert", "feedback", "report", "cancel",
        "tick", "goaway", "notice", "outcome", "content", "stored", "entry", "count"
    };
    // How often each of NAMES comes up; each seed bends these, so that some roads are slow in its run.
    private static final int[] WEIGHTS = {
        30, 6, 60, 20, 90, 80, 90, 60, 15, 12, 20, 1, 2, 20, 20, 30, 40, 40
    };
    private static final int[] FAR = {Integer.MIN_VALUE, Integer.MIN_VALUE + 1, Integer.MAX_VALUE};

    private final Random random;
    private final int[] weights = WEIGHTS.clone();
    private int requests;

    RandomCalls(long seed) {
        random = new Random(seed);
        for (int i = 0; i < weights.length; i++) {
            weights[i] = Math.max(1, weights[i] * (1 + random.nextInt(12)) / 6);
        }
        if (random.nextInt(3) != 0) {
            weights[11] = 0;
        }
    }

    /** Every answer that tells of the state without changing it. */
    static List<Call> look() {
        List<Call> calls = new ArrayList<>();
        for (int request = 0; request < 60; request++) {
            calls.add(new Call("outcome", request, 0, 0));
            calls.add(new Call("content", request, 0, 0));
        }
        for (int resource = 0; resource < 6; resource++) {
            for (int which = 0; which < 4; which++) {
                calls.add(new Call("stored", resource, which, 0));
            }
        }
        for (int k = 0; k < 5; k++) {
            for (int which = 0; which < 3; which++) {
                calls.add(new Call("entry", k, which, 0));
            }
        }
        for (int which = 0; which < 9; which++) {
            calls.add(new Call("count", which, 0, 0));
        }
        return calls;
    }

    /** To be told how many requests there are, since most calls are about the newest ones. */
    void madeRequest(int number) {
        requests = Math.max(requests, number + 1);
    }

    Call next() {
        String name = NAMES[pick()];
        switch (name) {
            case "put":
            case "replace":
                return new Call(name, resource(), content(), lifetime());
            case "drop":
            case "get":
                return new Call(name, resource(), 0, 0);
            case "stored":
                return new Call(name, resource(), near(0, 3), 0);
            case "entry":
                return new Call(name, near(0, 5), near(0, 2), 0);
            case "count":
                return new Call(name, near(0, 8), 0, 0);
            case "tick":
                return new Call(name, lifetime(), 0, 0);
            default:
                return new Call(name, request(), 0, 0);
        }
    }

    private int pick() {
        int all = 0;
        for (int weight : weights) {
            all += weight;
        }
        int left = random.nextInt(all);
        int at = 0;
        while (left >= weights[at]) {
            left -= weights[at];
            at++;
        }
        return at;
    }

    private int far() {
        return FAR[random.nextInt(FAR.length)];
    }

    /** Mostly least .. most, now and then just outside of it or far outside. */
    private int near(int least, int most) {
        int chance = random.nextInt(40);
        if (chance == 0) {
            return far();
        }
        if (chance < 3) {
            return chance == 1 ? least - 1 : most + 1;
        }
        return least + random.nextInt(most - least + 1);
    }

    // The first resources come up more often, so that requests for one resource meet.
    private int resource() {
        return random.nextInt(20) == 0 ? near(-1, 6) : random.nextInt(random.nextInt(6) + 1);
    }

    private int request() {
        if (random.nextInt(5) == 0) {
            return near(-1, 60);
        }
        return requests - 1 - random.nextInt(6);
    }

    // Few contents, so that fields of several resources are the same.
    private int content() {
        return random.nextInt(20) == 0 ? far() : random.nextInt(4) - 1;
    }

    private int lifetime() {
        int chance = random.nextInt(20);
        if (chance == 0) {
            return near(0, 1000);
        }
        return chance == 1 ? 1000 : random.nextInt(6);
    }
}
