public final class Promise08InsertTest {
    public static void main(String[] args) {
        Check check = new Check();
        oneByOne(check);
        severalAtOnce(check);
        onlyThoseThatNeedNoMore(check);
        noneWhenNoneIsUnderWay(check);
        inTheOrderOfTheRequests(check);
        cancelledOnesAreNotRead(check);
        check.finish();
    }

    private static void oneByOne(Check check) {
        TabledOrigin x = new TabledOrigin();
        check.due("none", x.insert(), Steps.NONE);
        x.put(0, 100, 10);
        x.arrive(x.get(0));
        x.reply(0);
        for (int come = 1; come <= 3; come++) {
            check.due("insert", x.insert(), come == 3 ? 1 : 0);
            check.due("come", x.count(Steps.COME), come);
        }
        check.due("found", x.outcome(0), Steps.FOUND);
        check.due("none more", x.insert(), Steps.NONE);
        check.due("come", x.count(Steps.COME), 3);
        x.arrive(x.replace(1, 1, 1));
        check.due("one more, nothing blocked", x.insert(), 0);
    }

    private static void severalAtOnce(Check check) {
        TabledOrigin x = new TabledOrigin();
        x.put(0, 100, 10);
        x.get(0);
        x.get(0);
        x.arrive(0);
        x.arrive(1);
        x.reply(1);
        x.reply(0);
        x.insert();
        x.insert();
        check.due("blocked", x.count(Steps.BLOCKED), 2);
        check.due("both are read", x.insert(), 2);
        check.due("none blocked", x.count(Steps.BLOCKED), 0);
        check.due("one ACK", x.feedback(), Steps.ACK);
        check.due("another ACK", x.feedback(), Steps.ACK);
    }

    private static void onlyThoseThatNeedNoMore(Check check) {
        TabledOrigin x = Steps.twoAtRisk();
        x.reply(0);
        x.reply(1);
        int[] due = {0, 0, 1, 0, 1, Steps.NONE};
        for (int read : due) {
            check.due("insert", x.insert(), read);
        }
        check.due("both are read", x.outcome(0) + x.outcome(1), 2 * Steps.FOUND);
    }

    private static void noneWhenNoneIsUnderWay(Check check) {
        TabledOrigin x = new TabledOrigin();
        check.due("no entry was made", x.insert(), Steps.NONE);
        x.arrive(x.get(0));
        check.due("a 404 makes none", x.insert(), Steps.NONE);
        x.arrive(x.replace(0, 1, 1));
        x.cancel(1);
        check.due("a cancelled answer's entry is told all the same", x.insert(), 0);
        check.due("all have come", x.insert(), Steps.NONE);
        check.due("come", x.count(Steps.COME), 1);
    }

    // Request 1 is a PUT, so what request 0 stores is forgotten only if 0 is read first.
    private static void inTheOrderOfTheRequests(Check check) {
        TabledOrigin x = new TabledOrigin();
        x.put(1, 100, 10);
        int get = x.get(0);
        int put = x.replace(0, 100, 10);
        Steps.fetch(x, 1);
        x.arrive(put);
        x.arrive(get);
        check.due("blocked", x.reply(put), Steps.PENDING);
        check.due("blocked", x.reply(get), Steps.PENDING);
        check.due("read", x.insert(), 2);
        check.due("found", x.outcome(get), Steps.FOUND);
        check.due("written", x.outcome(put), Steps.WRITTEN);
        check.due("stored, then forgotten", x.stored(0, 0), Steps.NONE);
    }

    private static void cancelledOnesAreNotRead(Check check) {
        TabledOrigin x = new TabledOrigin();
        x.arrive(x.replace(0, 1, 1));
        x.reply(0);
        x.cancel(0);
        check.due("none is read", x.insert(), 0);
        check.due("cancelled", x.outcome(0), Steps.CANCELLED);
        check.due("CANCEL", x.feedback(), Steps.CANCEL);
        check.due("no ACK", x.feedback(), Steps.NONE);
    }
}
