public final class Promise11GoawayTest {
    public static void main(String[] args) {
        Check check = new Check();
        TabledOrigin none = new TabledOrigin();
        none.get(0);
        check.due("none answered", none.goaway(), 0);
        check.due("all are thrown away", none.arrive(0), 0);
        check.due("the same", none.goaway(), 0);
        check.due("the notice is sent", none.notice(), 1);

        TabledOrigin x = new TabledOrigin();
        for (int i = 0; i < 6; i++) {
            x.get(0);
        }
        x.arrive(3);
        x.arrive(1);
        x.cancel(5);
        check.due("1 more than the greatest answered", x.goaway(), 4);
        x.arrive(0);
        x.arrive(4);
        check.due("the same later", x.goaway(), 4);
        check.due("notice", x.notice(), 1);
        check.due("once", x.goaway(), 4);
        check.due("no second notice", x.notice(), Steps.NONE);

        TabledOrigin cancelled = new TabledOrigin();
        cancelled.get(0);
        cancelled.get(0);
        cancelled.arrive(1);
        cancelled.cancel(1);
        check.due("an answered one counts though cancelled", cancelled.goaway(), 2);
        check.finish();
    }
}
