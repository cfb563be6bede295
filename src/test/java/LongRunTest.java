/** "An object is used for at most 512 calls after it has been made": all that can be made within them. */
public final class LongRunTest {
    public static void main(String[] args) {
        Check check = new Check();
        mostEntries(check);
        mostFeedback(check);
        mostTags(check);
        longestTime(check);
        laterCallsEnd();
        check.finish();
    }

    // Sixty answers with three new entries each: 480 calls, and 32 to look at them.
    private static void mostEntries(Check check) {
        TabledOrigin x = new TabledOrigin();
        for (int i = 0; i < 60; i++) {
            check.due("get", x.get(i % 6), i);
        }
        for (int i = 0; i < 60; i++) {
            check.due("put", x.put(i % 6, -i, i), i + 1);
            check.due("arrive", x.arrive(i), 200);
            check.due("insert", x.insert() + x.insert() + x.insert(), 0);
            check.due("reply", x.reply(i), Steps.FOUND);
            check.due("feedback", x.feedback(), Steps.ACK);
        }
        int[] counts = {180, 180, 180, 180, 0, 180, 0, 0, 0};
        for (int which = 0; which < counts.length; which++) {
            check.due("count " + which, x.count(which), counts[which]);
        }
        int[][] entries = {{2, -59}, {1, 59}, {0, 60}, {2, -58}, {1, 58}};
        for (int k = 0; k < entries.length; k++) {
            check.due("name of " + k, x.entry(k, 0), entries[k][0]);
            check.due("value of " + k, x.entry(k, 1), entries[k][1]);
        }
        check.due("no sixth", x.entry(5, 0), Steps.NONE);
        check.due("content", x.content(59), -59);
        check.due("tag", x.stored(5, 0), 60);
        check.due("request", x.stored(5, 2), 59);
        check.due("fresh for", x.stored(5, 3), 59);
        check.due("no instruction more", x.insert(), Steps.NONE);
        check.due("no feedback more", x.feedback(), Steps.NONE);
        check.due("nothing to report", x.report(), false);
    }

    // 36 answers, each told by three MORE and an ACK: 504 calls.
    private static void mostFeedback(Check check) {
        TabledOrigin x = new TabledOrigin();
        for (int i = 0; i < 36; i++) {
            x.get(i % 6);
        }
        for (int i = 0; i < 36; i++) {
            x.put(i % 6, -i, i);
            x.arrive(i);
            for (int j = 0; j < 3; j++) {
                x.insert();
                check.due("report", x.report(), true);
            }
            check.due("reply", x.reply(i), Steps.FOUND);
            for (int j = 0; j < 3; j++) {
                check.due("feedback", x.feedback(), Steps.MORE);
            }
            check.due("feedback", x.feedback(), Steps.ACK);
        }
        check.due("made", x.count(Steps.MADE), 108);
        check.due("known", x.count(Steps.KNOWN), 108);
        check.due("outstanding", x.count(Steps.OUTSTANDING), 0);
        check.due("none more", x.feedback(), Steps.NONE);
    }

    private static void mostTags(Check check) {
        TabledOrigin x = new TabledOrigin();
        for (int i = 1; i <= 512; i++) {
            check.due("put", x.put(i % 6, i, i), i);
        }
    }

    private static void longestTime(Check check) {
        TabledOrigin x = new TabledOrigin();
        x.put(0, 4, 1000);
        Steps.fetch(x, 0);
        for (int i = 0; i < 490; i++) {
            check.due("tick", x.tick(1000), true);
        }
        check.due("fresh for", x.stored(0, 3), 0);
        int again = x.get(0);
        check.due("asked again", x.arrive(again), 304);
        check.due("still good", x.reply(again), Steps.STILL_GOOD);
        check.due("fresh for", x.stored(0, 3), 1000);
        check.due("tick", x.tick(999), true);
        check.due("fresh still", x.outcome(x.get(0)), Steps.CACHED);
    }

    // "what later calls answer is free", but LANGUAGE.md lets no call throw or fail to end in any state.
    private static void laterCallsEnd() {
        for (int seed = 0; seed < 20; seed++) {
            RandomCalls calls = new RandomCalls(seed);
            TabledOrigin x = new TabledOrigin();
            for (int i = 0; i < 20000; i++) {
                Call call = calls.next();
                int answer = call.on(x);
                if (call.name().equals("get") || call.name().equals("replace")) {
                    calls.madeRequest(answer);
                }
            }
        }
        TabledOrigin late = new TabledOrigin();
        late.put(0, 4, 1000);
        Steps.fetch(late, 0);
        for (int i = 0; i < 3000000; i++) {
            late.tick(1000);
        }
        Steps.fetch(late, 0);
        late.stored(0, 3);
    }
}
