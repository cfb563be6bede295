public final class Promise12NoticeTest {
    public static void main(String[] args) {
        Check check = new Check();
        refusesBehindTheLimit(check);
        refusesAllSixty(check);
        leavesTheAnsweredAlone(check);
        aNoticeThatRefusesNoneHasComeToo(check);
        noneUntilItWasSent(check);
        check.finish();
    }

    private static void refusesBehindTheLimit(Check check) {
        TabledOrigin x = new TabledOrigin();
        for (int i = 0; i < 6; i++) {
            x.get(i);
        }
        x.arrive(2);
        x.cancel(4);
        x.goaway();
        x.arrive(5);
        check.due("3 and 5", x.notice(), 2);
        int[] due = {Steps.PENDING, Steps.PENDING, Steps.PENDING, Steps.REFUSED, Steps.CANCELLED, Steps.REFUSED};
        for (int request = 0; request < due.length; request++) {
            check.due("outcome " + request, x.outcome(request), due[request]);
        }
        check.due("under way no more", x.arrive(3), Steps.NONE);
        check.due("under way still", x.arrive(0), 404);
        check.due("answers still come", x.reply(2), Steps.ABSENT);
        check.due("it has come already", x.notice(), Steps.NONE);
        check.due("refused for good", x.cancel(3), false);
        check.due("nothing is put on the feedback but the CANCEL", x.feedback(), Steps.CANCEL);
        check.due("nothing more", x.feedback(), Steps.NONE);
    }

    private static void refusesAllSixty(Check check) {
        TabledOrigin x = new TabledOrigin();
        for (int i = 0; i < 60; i++) {
            x.replace(i % 6, i, i);
        }
        x.goaway();
        check.due("all", x.notice(), 60);
        check.due("the first", x.outcome(0), Steps.REFUSED);
        check.due("the last", x.outcome(59), Steps.REFUSED);
        check.due("under way no more", x.arrive(59), Steps.NONE);
    }

    private static void leavesTheAnsweredAlone(Check check) {
        TabledOrigin x = Steps.twoAtRisk();
        x.reply(0);
        x.goaway();
        check.due("one answer is blocked, one under way", x.notice(), 0);
        check.due("blocked still", x.count(Steps.BLOCKED), 1);
        Steps.takeInstructions(x);
        check.due("read", x.outcome(0), Steps.FOUND);
        check.due("under way still", x.reply(1), Steps.FOUND);
        check.due("and stored", x.stored(1, 1), 200);
    }

    private static void aNoticeThatRefusesNoneHasComeToo(Check check) {
        TabledOrigin x = new TabledOrigin();
        x.goaway();
        check.due("none to refuse", x.notice(), 0);
        check.due("it has come already", x.notice(), Steps.NONE);
        check.due("refused from now on", x.outcome(x.get(0)), Steps.REFUSED);
        check.due("it stays so", x.notice(), Steps.NONE);
    }

    private static void noneUntilItWasSent(Check check) {
        TabledOrigin x = new TabledOrigin();
        x.get(0);
        check.due("not sent", x.notice(), Steps.NONE);
        check.due("pending", x.outcome(0), Steps.PENDING);
        check.due("a later request is not refused", x.outcome(x.get(0)), Steps.PENDING);
        check.due("under way still", x.arrive(0), 404);
        check.due("limit", x.goaway(), 1);
        check.due("sent", x.notice(), 1);
    }
}
