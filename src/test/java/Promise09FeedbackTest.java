public final class Promise09FeedbackTest {
    public static void main(String[] args) {
        Check check = new Check();
        inOrder(check);
        ackRaisesKnown(check);
        ackNeverLowersKnown(check);
        cancelLeavesKnown(check);
        moreAdds(check);
        noneWhenNoneIsUnderWay(check);
        check.finish();
    }

    private static void inOrder(Check check) {
        TabledOrigin x = new TabledOrigin();
        check.due("none", x.feedback(), Steps.NONE);
        x.arrive(x.replace(0, 1, 1));
        x.insert();
        x.report();
        x.cancel(x.get(1));
        x.reply(0);
        check.due("MORE", x.feedback(), Steps.MORE);
        check.due("CANCEL", x.feedback(), Steps.CANCEL);
        check.due("ACK", x.feedback(), Steps.ACK);
        check.due("none more", x.feedback(), Steps.NONE);
    }

    private static void ackRaisesKnown(Check check) {
        TabledOrigin x = Steps.twoAtRisk();
        Steps.takeInstructions(x);
        x.reply(0);
        x.reply(1);
        check.due("ACK of 0", x.feedback(), Steps.ACK);
        check.due("known", x.count(Steps.KNOWN), 3);
        check.due("outstanding", x.count(Steps.OUTSTANDING), 1);
        check.due("the other refers to (1,10)", x.entry(3, 2), 1);
        check.due("none to (2,100)", x.entry(2, 2), 0);
        check.due("ACK of 1", x.feedback(), Steps.ACK);
        check.due("known", x.count(Steps.KNOWN), 5);
        check.due("outstanding", x.count(Steps.OUTSTANDING), 0);
    }

    private static void ackNeverLowersKnown(Check check) {
        TabledOrigin x = Steps.twoAtRisk();
        Steps.takeInstructions(x);
        x.reply(1);
        x.reply(0);
        x.feedback();
        check.due("known by the answer to 1", x.count(Steps.KNOWN), 5);
        x.feedback();
        check.due("the answer to 0 needs less", x.count(Steps.KNOWN), 5);
        check.due("told stays too", x.count(Steps.TOLD), 5);
    }

    private static void cancelLeavesKnown(Check check) {
        TabledOrigin x = Steps.twoAtRisk();
        x.cancel(0);
        check.due("outstanding until it comes", x.count(Steps.OUTSTANDING), 2);
        check.due("CANCEL", x.feedback(), Steps.CANCEL);
        check.due("outstanding", x.count(Steps.OUTSTANDING), 1);
        check.due("known", x.count(Steps.KNOWN), 0);
        check.due("one reference to (1,10) is left", x.entry(3, 2), 1);
        x.cancel(x.get(5));
        check.due("CANCEL of one without an answer", x.feedback(), Steps.CANCEL);
        check.due("outstanding", x.count(Steps.OUTSTANDING), 1);
    }

    private static void noneWhenNoneIsUnderWay(Check check) {
        TabledOrigin x = Steps.twoAtRisk();
        x.reply(0);
        x.insert();
        check.due("nothing was put", x.feedback(), Steps.NONE);
        x.cancel(0);
        check.due("CANCEL", x.feedback(), Steps.CANCEL);
        check.due("it has come", x.feedback(), Steps.NONE);
        check.due("known", x.count(Steps.KNOWN), 0);
        check.due("outstanding", x.count(Steps.OUTSTANDING), 1);
    }

    private static void moreAdds(Check check) {
        TabledOrigin x = Steps.twoAtRisk();
        x.insert();
        x.insert();
        x.report();
        x.insert();
        x.report();
        x.feedback();
        check.due("2 more", x.count(Steps.KNOWN), 2);
        x.feedback();
        check.due("1 more", x.count(Steps.KNOWN), 3);
        check.due("MORE acknowledges none", x.count(Steps.OUTSTANDING), 2);
    }
}
