import java.util.Random;

/** Random runs of calls, the same at every start, on a new object and a new Model beside it. */
public final class ModelRunsTest {
    private static final int RUNS = 6000;
    private static final int CALLS = 512;
    private static final int CALLS_OF_LOOK = 60 * 2 + 6 * 4 + 5 * 3 + 9;

    private static final String[] NAMES = {
        "put", "drop", "get", "replace", "arrive", "reply", "insert", "feedback", "report", "cancel",
        "tick", "goaway", "notice", "outcome", "content", "stored", "entry", "count"
    };
    // How often each of NAMES comes up; each run bends these, so that some roads are slow in it.
    private static final int[] WEIGHTS = {
        30, 6, 60, 20, 90, 80, 90, 60, 15, 12, 20, 1, 2, 20, 20, 30, 40, 40
    };

    private final Random random;
    private final TabledOrigin real = new TabledOrigin();
    private final Model model = new Model();
    private final int[] weights = WEIGHTS.clone();
    private int requests;
    private String call;

    private ModelRunsTest(long seed) {
        random = new Random(seed);
        for (int i = 0; i < weights.length; i++) {
            weights[i] = Math.max(1, weights[i] * (1 + random.nextInt(12)) / 6);
        }
        if (random.nextInt(3) != 0) {
            weights[11] = 0;
        }
    }

    public static void main(String[] args) {
        Check check = new Check();
        for (int seed = 0; seed < RUNS; seed++) {
            new ModelRunsTest(seed).run(check, seed);
        }
        check.finish();
    }

    private void run(Check check, int seed) {
        for (int i = 0; i < CALLS - CALLS_OF_LOOK; i++) {
            int[] answers = step(NAMES[pick()]);
            check.due("seed " + seed + ", call " + i + ": " + call, answers[0], answers[1]);
            if (answers[0] != answers[1]) {
                return;
            }
        }
        look(check, "seed " + seed + ", at the end: ");
    }

    private void look(Check check, String when) {
        for (int q = 0; q < 60; q++) {
            check.due(when + "outcome " + q, real.outcome(q), model.outcome(q));
            check.due(when + "content " + q, real.content(q), model.content(q));
        }
        for (int resource = 0; resource < 6; resource++) {
            for (int which = 0; which < 4; which++) {
                check.due(when + "stored", real.stored(resource, which), model.stored(resource, which));
            }
        }
        for (int k = 0; k < 5; k++) {
            for (int which = 0; which < 3; which++) {
                check.due(when + "entry", real.entry(k, which), model.entry(k, which));
            }
        }
        for (int which = 0; which < 9; which++) {
            check.due(when + "count " + which, real.count(which), model.count(which));
        }
    }

    private int pick() {
        int all = 0;
        for (int weight : weights) {
            all += weight;
        }
        int left = random.nextInt(all);
        int at = 0;
        while (left >= weights[at]) {
            left -= weights[at];
            at++;
        }
        return at;
    }

    private int[] step(String name) {
        int resource = resource();
        int request = request();
        int content = random.nextInt(4) - 1;
        int lifetime = lifetime();
        int place = random.nextInt(12) - 1;
        int which = random.nextInt(6) - 1;
        call = name + " of resource " + resource + ", request " + request + ", content " + content
            + ", lifetime " + lifetime + ", place " + place + ", which " + which;
        switch (name) {
            case "put":
                return pair(real.put(resource, content, lifetime), model.put(resource, content, lifetime));
            case "drop":
                return pair(real.drop(resource), model.drop(resource));
            case "get":
                return counted(real.get(resource), model.get(resource));
            case "replace":
                return counted(real.replace(resource, content, lifetime), model.replace(resource, content, lifetime));
            case "arrive":
                return pair(real.arrive(request), model.arrive(request));
            case "reply":
                return pair(real.reply(request), model.reply(request));
            case "insert":
                return pair(real.insert(), model.insert());
            case "feedback":
                return pair(real.feedback(), model.feedback());
            case "report":
                return pair(real.report(), model.report());
            case "cancel":
                return pair(real.cancel(request), model.cancel(request));
            case "tick":
                return pair(real.tick(lifetime), model.tick(lifetime));
            case "goaway":
                return pair(real.goaway(), model.goaway());
            case "notice":
                return pair(real.notice(), model.notice());
            case "outcome":
                return pair(real.outcome(request), model.outcome(request));
            case "content":
                return pair(real.content(request), model.content(request));
            case "stored":
                return pair(real.stored(resource, which), model.stored(resource, which));
            case "entry":
                return pair(real.entry(place, which), model.entry(place, which));
            default:
                return pair(real.count(place), model.count(place));
        }
    }

    private int resource() {
        return random.nextInt(30) == 0 ? random.nextInt(20) - 10 : random.nextInt(random.nextInt(6) + 1);
    }

    // Mostly one of the newest, since those are under way.
    private int request() {
        if (random.nextInt(5) == 0) {
            return random.nextInt(64) - 2;
        }
        return requests - 1 - random.nextInt(6);
    }

    private int lifetime() {
        int kind = random.nextInt(20);
        if (kind == 0) {
            return random.nextInt(2005) - 1002;
        }
        return kind == 1 ? 1000 : random.nextInt(6);
    }

    private int[] counted(int got, int due) {
        requests = Math.max(requests, due + 1);
        return pair(got, due);
    }

    private static int[] pair(int got, int due) {
        return new int[] {got, due};
    }

    private static int[] pair(boolean got, boolean due) {
        return new int[] {got ? 1 : 0, due ? 1 : 0};
    }
}
