public final class Promise14TickTest {
    public static void main(String[] args) {
        Check check = new Check();
        TabledOrigin x = new TabledOrigin();
        x.put(0, 100, 1000);
        Steps.fetch(x, 0);
        check.due("tick 0", x.tick(0), true);
        check.due("nothing passed", x.stored(0, 3), 1000);
        check.due("tick 1", x.tick(1), true);
        check.due("1 passed", x.stored(0, 3), 999);
        check.due("tick 500", x.tick(500), true);
        check.due("501 passed", x.stored(0, 3), 499);
        int[] wrong = {-1, 1001, Integer.MIN_VALUE, Integer.MAX_VALUE};
        for (int n : wrong) {
            check.due("tick " + n, x.tick(n), false);
        }
        check.due("nothing passed", x.stored(0, 3), 499);
        check.due("tick 1000", x.tick(1000), true);
        check.due("not fresh", x.stored(0, 3), 0);
        for (int i = 0; i < 400; i++) {
            x.tick(1000);
        }
        check.due("still not fresh", x.stored(0, 3), 0);
        check.due("asked again", x.arrive(x.get(0)), 304);
        check.due("still good", x.reply(1), Steps.STILL_GOOD);
        check.due("fresh from the late time on", x.stored(0, 3), 1000);
        check.finish();
    }
}
