public final class Promise01NewObjectTest {
    public static void main(String[] args) {
        Check check = new Check();
        nothingIsThere(check);
        nothingIsUnderWay(check);
        theClockAndTheTagsBegin(check);
        objectsShareNothing(check);
        check.due("NONE", TabledOrigin.NONE, -1);
        check.finish();
    }

    private static void nothingIsThere(Check check) {
        TabledOrigin x = new TabledOrigin();
        for (int request = 0; request < 60; request++) {
            check.due("outcome", x.outcome(request), Steps.NONE);
            check.due("content", x.content(request), Steps.NONE);
        }
        for (int resource = 0; resource < 6; resource++) {
            check.due("stored", x.stored(resource, 0), Steps.NONE);
            check.due("stored", x.stored(resource, 3), Steps.NONE);
            check.due("drop", x.drop(resource), false);
        }
        for (int k = 0; k < 5; k++) {
            check.due("entry", x.entry(k, 0), Steps.NONE);
        }
        for (int which = 0; which <= 8; which++) {
            check.due("count " + which, x.count(which), 0);
        }
    }

    private static void nothingIsUnderWay(Check check) {
        TabledOrigin x = new TabledOrigin();
        check.due("arrive", x.arrive(0), Steps.NONE);
        check.due("reply", x.reply(0), Steps.NONE);
        check.due("insert", x.insert(), Steps.NONE);
        check.due("feedback", x.feedback(), Steps.NONE);
        check.due("report", x.report(), false);
        check.due("notice", x.notice(), Steps.NONE);
        check.due("cancel", x.cancel(0), false);
        check.due("goaway", x.goaway(), 0);
    }

    private static void theClockAndTheTagsBegin(Check check) {
        TabledOrigin x = new TabledOrigin();
        check.due("first request", x.get(0), 0);
        check.due("absent", x.arrive(0), 404);
        check.due("first tag", x.put(0, 1, 7), 1);
        Steps.fetch(x, 0);
        check.due("fresh since 0", x.stored(0, 3), 7);
    }

    private static void objectsShareNothing(Check check) {
        TabledOrigin x = new TabledOrigin();
        x.put(0, 1, 100);
        Steps.fetch(x, 0);
        x.tick(5);
        TabledOrigin y = new TabledOrigin();
        check.due("made", y.count(Steps.MADE), 0);
        check.due("stored", y.stored(0, 0), Steps.NONE);
        check.due("first tag", y.put(3, 1, 100), 1);
        check.due("first request", y.get(3), 0);
        check.due("old object goes on", x.get(0), 1);
    }
}
