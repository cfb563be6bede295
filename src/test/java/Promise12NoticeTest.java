public final class Promise12NoticeTest {
    public static void main(String[] args) {
        Check check = new Check();
        refusesBehindTheLimit(check);
        aNoticeThatRefusesNoneHasComeToo(check);
        check.finish();
    }

    private static void refusesBehindTheLimit(Check check) {
        TabledOrigin x = new TabledOrigin();
        for (int i = 0; i < 6; i++) {
            x.get(i);
        }
        check.due("not sent", x.notice(), Steps.NONE);
        x.arrive(2);
        x.cancel(4);
        x.goaway();
        x.arrive(5);
        check.due("3 and 5", x.notice(), 2);
        int[] due = {Steps.PENDING, Steps.PENDING, Steps.PENDING, Steps.REFUSED, Steps.CANCELLED, Steps.REFUSED};
        for (int request = 0; request < due.length; request++) {
            check.due("outcome " + request, x.outcome(request), due[request]);
        }
        check.due("under way no more", x.arrive(3), Steps.NONE);
        check.due("under way still", x.arrive(0), 404);
        check.due("answers still come", x.reply(2), Steps.ABSENT);
        check.due("it has come already", x.notice(), Steps.NONE);
        check.due("refused for good", x.cancel(3), false);
    }

    private static void aNoticeThatRefusesNoneHasComeToo(Check check) {
        TabledOrigin x = new TabledOrigin();
        x.goaway();
        check.due("none to refuse", x.notice(), 0);
        check.due("it has come already", x.notice(), Steps.NONE);
        check.due("refused from now on", x.outcome(x.get(0)), Steps.REFUSED);
    }
}
