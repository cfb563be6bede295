/** Random runs of calls, the same at every start, on a new object and a new Model beside it. */
public final class ModelRunsTest {
    private static final int RUNS = 6000;
    private static final int CALLS = 512;

    public static void main(String[] args) {
        Check check = new Check();
        for (int seed = 0; seed < RUNS; seed++) {
            run(check, seed);
        }
        check.finish();
    }

    private static void run(Check check, int seed) {
        RandomCalls calls = new RandomCalls(seed);
        TabledOrigin real = new TabledOrigin();
        Model model = new Model();
        int made = CALLS - RandomCalls.look().size();
        for (int i = 0; i < made; i++) {
            Call call = calls.next();
            int due = call.on(model);
            int got = call.on(real);
            check.due("seed " + seed + ", call " + i + ": " + call, got, due);
            if (got != due) {
                return;
            }
            if (call.name().equals("get") || call.name().equals("replace")) {
                calls.madeRequest(due);
            }
        }
        for (Call call : RandomCalls.look()) {
            check.due("seed " + seed + ", at the end: " + call, call.on(real), call.on(model));
        }
    }
}
