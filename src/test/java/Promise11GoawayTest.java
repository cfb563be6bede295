public final class Promise11GoawayTest {
    public static void main(String[] args) {
        Check check = new Check();
        zeroWhenNoneWasAnswered(check);
        oneMoreThanTheGreatestAnswered(check);
        sixtyWhenTheLastWasAnswered(check);
        theSameAtEveryLaterCall(check);
        answersOfAllKindsCount(check);
        anAnsweredOneCountsThoughCancelled(check);
        sendsOneNotice(check);
        check.finish();
    }

    private static TabledOrigin withRequests(int number) {
        TabledOrigin x = new TabledOrigin();
        for (int i = 0; i < number; i++) {
            x.get(0);
        }
        return x;
    }

    private static void zeroWhenNoneWasAnswered(Check check) {
        check.due("a new object", new TabledOrigin().goaway(), 0);
        TabledOrigin x = withRequests(3);
        x.cancel(2);
        check.due("none answered", x.goaway(), 0);
        check.due("all are thrown away", x.arrive(0), 0);
        check.due("the same", x.goaway(), 0);
    }

    private static void oneMoreThanTheGreatestAnswered(Check check) {
        TabledOrigin first = withRequests(2);
        first.arrive(0);
        check.due("request 0 was answered", first.goaway(), 1);
        TabledOrigin x = withRequests(6);
        x.arrive(3);
        x.arrive(1);
        x.cancel(5);
        check.due("requests 3 and 1 were answered", x.goaway(), 4);
    }

    private static void sixtyWhenTheLastWasAnswered(Check check) {
        TabledOrigin x = withRequests(60);
        x.arrive(59);
        check.due("request 59 was answered", x.goaway(), 60);
        check.due("all others are less", x.arrive(58), 404);
        check.due("none is refused", x.notice(), 0);
    }

    private static void theSameAtEveryLaterCall(Check check) {
        TabledOrigin x = withRequests(6);
        x.arrive(3);
        check.due("limit", x.goaway(), 4);
        check.due("answered", x.arrive(0), 404);
        check.due("thrown away", x.arrive(4), 0);
        check.due("the same", x.goaway(), 4);
        x.notice();
        check.due("the same behind the notice", x.goaway(), 4);
        x.get(0);
        check.due("the same with more requests", x.goaway(), 4);
    }

    private static void answersOfAllKindsCount(Check check) {
        TabledOrigin absent = withRequests(1);
        check.due("404", absent.arrive(0), 404);
        check.due("limit", absent.goaway(), 1);
        TabledOrigin written = new TabledOrigin();
        check.due("200", written.arrive(written.replace(0, 1, 1)), 200);
        check.due("limit", written.goaway(), 1);
        TabledOrigin failed = new TabledOrigin();
        failed.put(0, 1, 1);
        Steps.fetch(failed, 0);
        failed.drop(0);
        check.due("412", failed.arrive(failed.replace(0, 1, 1)), 412);
        check.due("limit", failed.goaway(), 2);
        TabledOrigin good = new TabledOrigin();
        good.put(0, 1, 0);
        Steps.fetch(good, 0);
        check.due("304", good.arrive(good.get(0)), 304);
        check.due("limit", good.goaway(), 2);
        TabledOrigin cached = new TabledOrigin();
        cached.put(0, 1, 1);
        Steps.fetch(cached, 0);
        check.due("cached", cached.outcome(cached.get(0)), Steps.CACHED);
        check.due("the server has not answered that", cached.goaway(), 1);
    }

    private static void anAnsweredOneCountsThoughCancelled(Check check) {
        TabledOrigin x = withRequests(2);
        x.arrive(1);
        x.cancel(1);
        check.due("limit", x.goaway(), 2);
    }

    private static void sendsOneNotice(Check check) {
        TabledOrigin x = withRequests(1);
        x.goaway();
        x.goaway();
        check.due("notice", x.notice(), 1);
        x.goaway();
        check.due("no second notice", x.notice(), Steps.NONE);
    }
}
