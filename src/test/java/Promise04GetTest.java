public final class Promise04GetTest {
    public static void main(String[] args) {
        Check check = new Check();
        numbersGrow(check);
        freshIsCached(check);
        staleIsAskedAgain(check);
        freshnessCountsFromTheSending(check);
        cachedComesBeforeRefused(check);
        theContentIsKeptWithTheRequest(check);
        wrongInputs(check);
        check.finish();
    }

    private static void numbersGrow(Check check) {
        TabledOrigin x = new TabledOrigin();
        for (int i = 0; i < 60; i++) {
            check.due("get", x.get(i % 6), i);
            check.due("pending", x.outcome(i), Steps.PENDING);
        }
        check.due("the 61st", x.get(0), Steps.NONE);
        check.due("no such request", x.outcome(60), Steps.NONE);
        check.due("the last one is under way", x.arrive(59), 404);
    }

    private static void freshIsCached(Check check) {
        TabledOrigin x = new TabledOrigin();
        x.put(0, 100, 10);
        Steps.fetch(x, 0);
        x.put(0, 101, 10);
        x.tick(9);
        int request = x.get(0);
        check.due("number", request, 1);
        check.due("cached", x.outcome(request), Steps.CACHED);
        check.due("stored content", x.content(request), 100);
        check.due("nothing is sent", x.arrive(request), Steps.NONE);
        check.due("other resources are not cached", x.outcome(x.get(1)), Steps.PENDING);
    }

    private static void staleIsAskedAgain(Check check) {
        TabledOrigin x = new TabledOrigin();
        x.put(0, 100, 10);
        x.put(1, 200, 0);
        Steps.fetch(x, 0);
        Steps.fetch(x, 1);
        x.tick(10);
        int request = x.get(0);
        check.due("stale at its lifetime", x.outcome(request), Steps.PENDING);
        check.due("it bears the tag", x.arrive(request), 304);
        check.due("lifetime 0 is never fresh", x.outcome(x.get(1)), Steps.PENDING);
    }

    private static void freshnessCountsFromTheSending(Check check) {
        TabledOrigin x = new TabledOrigin();
        x.put(0, 100, 10);
        x.tick(3);
        int first = x.get(0);
        x.tick(6);
        Steps.finish(x, first);
        check.due("fresh for", x.stored(0, 3), 4);
        x.tick(3);
        check.due("last fresh moment", x.outcome(x.get(0)), Steps.CACHED);
        x.tick(1);
        check.due("first stale moment", x.outcome(x.get(0)), Steps.PENDING);
    }

    private static void cachedComesBeforeRefused(Check check) {
        TabledOrigin x = new TabledOrigin();
        x.put(0, 100, 10);
        Steps.fetch(x, 0);
        x.goaway();
        int between = x.get(1);
        check.due("the notice is not taken yet", x.outcome(between), Steps.PENDING);
        x.notice();
        check.due("cached", x.outcome(x.get(0)), Steps.CACHED);
        int refused = x.get(1);
        check.due("a number all the same", refused, 3);
        check.due("refused", x.outcome(refused), Steps.REFUSED);
        check.due("nothing is sent", x.arrive(refused), Steps.NONE);
        x.tick(10);
        check.due("refused when stale", x.outcome(x.get(0)), Steps.REFUSED);
    }

    private static void theContentIsKeptWithTheRequest(Check check) {
        TabledOrigin x = new TabledOrigin();
        x.put(0, 100, 0);
        Steps.fetch(x, 0);
        int old = x.get(0);
        x.arrive(old);
        x.put(0, 101, 0);
        Steps.fetch(x, 0);
        check.due("the newer is stored", x.stored(0, 1), 101);
        Steps.takeInstructions(x);
        check.due("still good", x.reply(old), Steps.STILL_GOOD);
        check.due("the content it kept", x.content(old), 100);
    }

    private static void wrongInputs(Check check) {
        TabledOrigin x = new TabledOrigin();
        for (int resource : Steps.WRONG_RESOURCES) {
            check.due("get of " + resource, x.get(resource), Steps.NONE);
        }
        check.due("no request was made", x.outcome(0), Steps.NONE);
        check.due("the first", x.get(5), 0);
    }
}
