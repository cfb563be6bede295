public final class Promise16ContentTest {
    public static void main(String[] args) {
        Check check = new Check();
        TabledOrigin x = new TabledOrigin();
        int absent = Steps.fetch(x, 0);
        x.put(0, 11, 5);
        int found = Steps.fetch(x, 0);
        int cached = x.get(0);
        x.tick(5);
        int pending = x.get(0);
        check.due("pending, though a content is kept", x.content(pending), 0);
        int good = Steps.finish(x, pending);
        int written = Steps.write(x, 0, 22, 5);
        Steps.fetch(x, 0);
        x.put(0, 33, 0);
        int failed = Steps.write(x, 0, 44, 5);
        x.tick(5);
        int newest = Steps.fetch(x, 0);
        int cancelled = x.get(0);
        x.cancel(cancelled);
        int refused = x.get(0);
        x.goaway();
        x.notice();
        check.due("absent", x.content(absent), 0);
        check.due("found", x.content(found), 11);
        check.due("cached", x.content(cached), 11);
        check.due("still good", x.content(good), 11);
        check.due("written", x.content(written), 0);
        check.due("failed", x.content(failed), 0);
        check.due("found", x.content(newest), 33);
        check.due("cancelled", x.content(cancelled), 0);
        check.due("refused", x.content(refused), 0);
        int[] wrong = {-1, refused + 1, 60, Integer.MIN_VALUE, Integer.MAX_VALUE};
        for (int request : wrong) {
            check.due("content of " + request, x.content(request), Steps.NONE);
        }
        noneWhenThereIsNone(check);
        zeroUntilItIsRead(check);
        check.finish();
    }

    private static void noneWhenThereIsNone(Check check) {
        TabledOrigin x = new TabledOrigin();
        for (int made = 0; made < 60; made++) {
            check.due("content of the next", x.content(made), Steps.NONE);
            x.replace(0, 5, 5);
            check.due("content of the newest", x.content(made), 0);
        }
        check.due("content of 60", x.content(60), Steps.NONE);
    }

    private static void zeroUntilItIsRead(Check check) {
        TabledOrigin x = new TabledOrigin();
        x.put(0, 5, 5);
        x.get(0);
        check.due("under way", x.content(0), 0);
        x.arrive(0);
        check.due("answered", x.content(0), 0);
        x.reply(0);
        check.due("blocked", x.content(0), 0);
        Steps.takeInstructions(x);
        check.due("read", x.content(0), 5);
    }
}
