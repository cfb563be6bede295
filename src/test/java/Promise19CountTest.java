public final class Promise19CountTest {
    public static void main(String[] args) {
        Check check = new Check();
        TabledOrigin x = Steps.twoAtRisk();
        counts(check, "two at risk", x, 5, 0, 0, 0, 0, 6, 2, 2, 0);
        x.arrive(x.get(0));
        counts(check, "a third is all literals", x, 5, 0, 0, 0, 3, 6, 2, 2, 0);
        x.reply(0);
        x.reply(1);
        counts(check, "both are blocked", x, 5, 0, 0, 0, 3, 6, 2, 2, 2);
        x.insert();
        x.report();
        counts(check, "one has come and is told", x, 5, 0, 1, 1, 3, 6, 2, 2, 2);
        x.insert();
        x.insert();
        counts(check, "the first is read", x, 5, 0, 3, 3, 3, 6, 2, 2, 1);
        x.feedback();
        counts(check, "MORE", x, 5, 1, 3, 3, 3, 6, 2, 2, 1);
        x.feedback();
        counts(check, "ACK", x, 5, 3, 3, 3, 3, 6, 1, 1, 1);
        x.insert();
        x.report();
        x.feedback();
        counts(check, "one short of the need", x, 5, 4, 4, 4, 3, 6, 1, 1, 1);
        x.insert();
        counts(check, "the second is read", x, 5, 4, 5, 5, 3, 6, 1, 1, 0);
        x.feedback();
        counts(check, "all is told", x, 5, 5, 5, 5, 3, 6, 0, 0, 0);
        int[] wrong = {-1, 9, Integer.MIN_VALUE, Integer.MAX_VALUE};
        for (int which : wrong) {
            check.due("count " + which, x.count(which), Steps.NONE);
        }
        check.finish();
    }

    private static void counts(Check check, String when, TabledOrigin x, int... due) {
        for (int which = 0; which < due.length; which++) {
            check.due(when + ": count " + which, x.count(which), due[which]);
        }
    }
}
