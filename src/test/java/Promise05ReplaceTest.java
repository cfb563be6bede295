public final class Promise05ReplaceTest {
    public static void main(String[] args) {
        Check check = new Check();
        writesWithoutATag(check);
        bearsTheStoredTag(check);
        isNeverCached(check);
        isRefusedAfterTheNotice(check);
        wrongInputs(check);
        sixtyAtMost(check);
        check.finish();
    }

    private static void writesWithoutATag(Check check) {
        TabledOrigin x = new TabledOrigin();
        x.put(1, 5, 5);
        int absent = x.replace(0, 10, 0);
        int there = x.replace(1, Integer.MIN_VALUE, 1000);
        check.due("first number", absent, 0);
        check.due("second number", there, 1);
        check.due("pending", x.outcome(absent), Steps.PENDING);
        check.due("to an absent one", x.arrive(absent), 200);
        check.due("to one that is there", x.arrive(there), 200);
        check.due("the next tag", x.put(2, 0, 0), 4);
        check.due("content", x.content(Steps.fetch(x, 1)), Integer.MIN_VALUE);
        check.due("tag", x.stored(1, 0), 3);
        check.due("lifetime", x.stored(1, 3), 1000);
    }

    private static void bearsTheStoredTag(Check check) {
        TabledOrigin x = new TabledOrigin();
        x.put(0, 1, 50);
        Steps.fetch(x, 0);
        int first = x.replace(0, 2, 50);
        int second = x.replace(0, 3, 50);
        check.due("its tag", x.arrive(first), 200);
        check.due("another tag", x.arrive(second), 412);
        check.due("written", x.reply(first), Steps.PENDING);
        x.insert();
        check.due("written", x.outcome(first), Steps.WRITTEN);
        check.due("failed", x.reply(second), Steps.FAILED);
        check.due("nothing stored", x.stored(0, 0), Steps.NONE);
        check.due("the first has written", x.content(Steps.fetch(x, 0)), 2);
    }

    private static void isNeverCached(Check check) {
        TabledOrigin x = new TabledOrigin();
        x.put(0, 1, 50);
        Steps.fetch(x, 0);
        int put = x.replace(0, 2, 50);
        check.due("pending though fresh", x.outcome(put), Steps.PENDING);
        check.due("it is under way", x.arrive(put), 200);
    }

    private static void isRefusedAfterTheNotice(Check check) {
        TabledOrigin x = new TabledOrigin();
        x.put(0, 1, 50);
        Steps.fetch(x, 0);
        x.goaway();
        x.notice();
        int put = x.replace(0, 2, 50);
        check.due("number", put, 1);
        check.due("refused though fresh", x.outcome(put), Steps.REFUSED);
        check.due("nothing is sent", x.arrive(put), Steps.NONE);
    }

    private static void wrongInputs(Check check) {
        TabledOrigin x = new TabledOrigin();
        for (int resource : Steps.WRONG_RESOURCES) {
            check.due("replace of " + resource, x.replace(resource, 1, 1), Steps.NONE);
        }
        for (int lifetime : Steps.WRONG_LIFETIMES) {
            check.due("replace with lifetime " + lifetime, x.replace(0, 1, lifetime), Steps.NONE);
        }
        check.due("no request was made", x.replace(5, 1, 1), 0);
    }

    private static void sixtyAtMost(Check check) {
        TabledOrigin x = new TabledOrigin();
        for (int i = 0; i < 60; i++) {
            check.due("replace", x.replace(i % 6, i, i), i);
        }
        check.due("the 61st", x.replace(0, 0, 0), Steps.NONE);
        check.due("nor a GET", x.get(0), Steps.NONE);
    }
}
