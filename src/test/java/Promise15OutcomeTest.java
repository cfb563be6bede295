public final class Promise15OutcomeTest {
    public static void main(String[] args) {
        Check check = new Check();
        TabledOrigin x = new TabledOrigin();
        int absent = Steps.fetch(x, 0);
        x.put(0, 1, 5);
        int found = Steps.fetch(x, 0);
        int cached = x.get(0);
        x.tick(5);
        int good = Steps.fetch(x, 0);
        int written = Steps.write(x, 0, 2, 5);
        Steps.fetch(x, 0);
        x.put(0, 3, 5);
        int failed = Steps.write(x, 0, 4, 5);
        int cancelled = x.get(1);
        x.cancel(cancelled);
        int pending = x.get(1);
        x.arrive(pending);
        int refused = x.get(2);
        x.goaway();
        x.notice();
        check.due("pending", x.outcome(pending), 0);
        check.due("found", x.outcome(found), 1);
        check.due("still good", x.outcome(good), 2);
        check.due("absent", x.outcome(absent), 3);
        check.due("written", x.outcome(written), 4);
        check.due("failed", x.outcome(failed), 5);
        check.due("cancelled", x.outcome(cancelled), 6);
        check.due("refused", x.outcome(refused), 7);
        check.due("cached", x.outcome(cached), 8);
        int[] wrong = {-1, refused + 1, 60, Integer.MIN_VALUE, Integer.MAX_VALUE};
        for (int request : wrong) {
            check.due("outcome of " + request, x.outcome(request), Steps.NONE);
        }
        noneWhenThereIsNone(check);
        check.finish();
    }

    private static void noneWhenThereIsNone(Check check) {
        TabledOrigin x = new TabledOrigin();
        for (int made = 0; made < 60; made++) {
            check.due("outcome of the next", x.outcome(made), Steps.NONE);
            x.get(0);
            check.due("outcome of the newest", x.outcome(made), Steps.PENDING);
        }
        check.due("outcome of 60", x.outcome(60), Steps.NONE);
    }
}
