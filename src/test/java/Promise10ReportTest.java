public final class Promise10ReportTest {
    public static void main(String[] args) {
        Check check = new Check();
        TabledOrigin x = Steps.twoAtRisk();
        check.due("nothing has come", x.report(), false);
        check.due("nothing was put", x.feedback(), Steps.NONE);
        x.insert();
        x.insert();
        check.due("two untold", x.report(), true);
        check.due("told", x.count(Steps.TOLD), 2);
        check.due("not known yet", x.count(Steps.KNOWN), 0);
        check.due("all told", x.report(), false);
        check.due("MORE", x.feedback(), Steps.MORE);
        check.due("known", x.count(Steps.KNOWN), 2);
        check.due("one MORE", x.feedback(), Steps.NONE);
        anAckTellsToo(check);
        onlyTheDifferenceIsReported(check);
        oneMoreIsEnough(check);
        check.finish();
    }

    private static void anAckTellsToo(Check check) {
        TabledOrigin x = Steps.twoAtRisk();
        Steps.takeInstructions(x);
        x.reply(1);
        check.due("the ACK told all", x.report(), false);
    }

    private static void oneMoreIsEnough(Check check) {
        TabledOrigin x = Steps.twoAtRisk();
        for (int come = 1; come <= 5; come++) {
            x.insert();
            check.due("one untold", x.report(), true);
            check.due("none untold", x.report(), false);
            check.due("told", x.count(Steps.TOLD), come);
        }
        for (int known = 1; known <= 5; known++) {
            check.due("MORE", x.feedback(), Steps.MORE);
            check.due("known", x.count(Steps.KNOWN), known);
        }
        check.due("nothing else was put", x.feedback(), Steps.NONE);
    }

    private static void onlyTheDifferenceIsReported(Check check) {
        TabledOrigin x = Steps.twoAtRisk();
        Steps.takeInstructions(x);
        x.reply(0);
        check.due("told", x.count(Steps.TOLD), 3);
        check.due("the rest", x.report(), true);
        check.due("told", x.count(Steps.TOLD), 5);
        check.due("ACK", x.feedback(), Steps.ACK);
        check.due("known", x.count(Steps.KNOWN), 3);
        check.due("MORE", x.feedback(), Steps.MORE);
        check.due("known", x.count(Steps.KNOWN), 5);
    }
}
