/** The edges in "Terms" of the feedback on its way to the server; each sentence stands above its test. */
public final class TermsFeedbackTest {
    public static void main(String[] args) {
        Check check = new Check();
        comesInTheOrderOfItsPutting(check);
        readBlockedAnswersAreAcknowledgedInOrder(check);
        sixtyMayBeUnderWay(check);
        ackRaisesKnownToTheNeed(check);
        ackOfALesserNeedLeavesKnown(check);
        ackOfAnEqualNeedLeavesKnown(check);
        cancelEndsAnOutstandingAnswer(check);
        cancelOfWhatIsNotOutstanding(check);
        cancelOfWhatNeverArrived(check);
        cancelLeavesTheOthers(check);
        moreAddsToKnown(check);
        moreBehindAnAck(check);
        check.finish();
    }

    private static void counts(Check check, TabledOrigin x, int known, int outstanding, int atRisk) {
        check.due("known", x.count(Steps.KNOWN), known);
        check.due("outstanding", x.count(Steps.OUTSTANDING), outstanding);
        check.due("at risk", x.count(Steps.AT_RISK), atRisk);
    }

    // "FEEDBACK comes to the server one by one in the order in which it was put."
    private static void comesInTheOrderOfItsPutting(Check check) {
        TabledOrigin x = Steps.twoAtRisk();
        int early = x.get(5);
        x.insert();
        x.report();
        x.cancel(early);
        Steps.takeInstructions(x);
        x.reply(0);
        x.report();
        x.reply(1);
        x.cancel(x.get(4));
        int[] due = {Steps.MORE, Steps.CANCEL, Steps.ACK, Steps.MORE, Steps.ACK, Steps.CANCEL, Steps.NONE};
        int[] known = {1, 1, 3, 5, 5, 5, 5};
        for (int i = 0; i < due.length; i++) {
            check.due("feedback " + i, x.feedback(), due[i]);
            check.due("known " + i, x.count(Steps.KNOWN), known[i]);
        }
    }

    // The GET alone refers to the known (1,10), so its ACK can be told from that of the PUT.
    private static void readBlockedAnswersAreAcknowledgedInOrder(Check check) {
        TabledOrigin x = new TabledOrigin();
        x.put(1, 100, 10);
        Steps.fetch(x, 1);
        int get = x.get(0);
        int put = x.replace(0, 100, 10);
        x.arrive(put);
        x.arrive(get);
        x.reply(put);
        x.reply(get);
        check.due("both are read", x.insert(), 2);
        check.due("both refer to (0,2)", x.entry(0, 2), 2);
        check.due("one refers to (1,10)", x.entry(2, 2), 1);
        check.due("the ACK of the GET", x.feedback(), Steps.ACK);
        check.due("the PUT refers to (0,2)", x.entry(0, 2), 1);
        check.due("none refers to (1,10)", x.entry(2, 2), 0);
        check.due("the ACK of the PUT", x.feedback(), Steps.ACK);
        check.due("none refers to (0,2)", x.entry(0, 2), 0);
    }

    private static void sixtyMayBeUnderWay(Check check) {
        TabledOrigin x = new TabledOrigin();
        int acked = x.replace(0, 0, 0);
        x.arrive(acked);
        x.insert();
        x.report();
        for (int i = 1; i < 60; i++) {
            x.cancel(x.get(i % 6));
        }
        x.reply(acked);
        check.due("MORE", x.feedback(), Steps.MORE);
        for (int i = 1; i < 60; i++) {
            check.due("CANCEL of " + i, x.feedback(), Steps.CANCEL);
        }
        counts(check, x, 1, 1, 0);
        check.due("ACK", x.feedback(), Steps.ACK);
        counts(check, x, 1, 0, 0);
        check.due("none more", x.feedback(), Steps.NONE);
    }

    // "ACK q: the answer to q is outstanding no more, and KNOWN becomes its need if that is greater."
    private static void ackRaisesKnownToTheNeed(Check check) {
        TabledOrigin x = Steps.twoAtRisk();
        Steps.takeInstructions(x);
        x.reply(0);
        counts(check, x, 0, 2, 2);
        x.feedback();
        counts(check, x, 3, 1, 1);
    }

    private static void ackOfALesserNeedLeavesKnown(Check check) {
        TabledOrigin x = Steps.twoAtRisk();
        Steps.takeInstructions(x);
        x.reply(1);
        x.reply(0);
        x.feedback();
        counts(check, x, 5, 1, 0);
        x.feedback();
        counts(check, x, 5, 0, 0);
    }

    private static void ackOfAnEqualNeedLeavesKnown(Check check) {
        TabledOrigin x = new TabledOrigin();
        x.arrive(x.replace(0, 0, 0));
        x.insert();
        x.report();
        x.feedback();
        counts(check, x, 1, 1, 0);
        x.reply(0);
        x.feedback();
        counts(check, x, 1, 0, 0);
    }

    // "CANCEL q: the answer to q, if it is outstanding, is that no more."
    private static void cancelEndsAnOutstandingAnswer(Check check) {
        TabledOrigin x = Steps.twoAtRisk();
        Steps.takeInstructions(x);
        x.cancel(1);
        counts(check, x, 0, 2, 2);
        check.due("CANCEL", x.feedback(), Steps.CANCEL);
        counts(check, x, 0, 1, 1);
        check.due("not told", x.count(Steps.TOLD), 0);
        check.due("entries stay live", x.entry(0, 1), 200);
    }

    private static void cancelOfWhatIsNotOutstanding(Check check) {
        TabledOrigin x = Steps.twoAtRisk();
        int literal = x.replace(2, 0, 0);
        x.arrive(literal);
        check.due("literals", x.count(Steps.LITERALS), 1);
        x.cancel(literal);
        check.due("CANCEL", x.feedback(), Steps.CANCEL);
        counts(check, x, 0, 2, 2);
    }

    private static void cancelOfWhatNeverArrived(Check check) {
        TabledOrigin x = Steps.twoAtRisk();
        x.cancel(x.get(0));
        check.due("CANCEL", x.feedback(), Steps.CANCEL);
        counts(check, x, 0, 2, 2);
    }

    private static void cancelLeavesTheOthers(Check check) {
        TabledOrigin x = Steps.twoAtRisk();
        x.cancel(0);
        x.feedback();
        int[] references = {1, 1, 0, 1, 0};
        for (int k = 0; k < references.length; k++) {
            check.due("references to " + k, x.entry(k, 2), references[k]);
        }
    }

    // "MORE n: KNOWN grows by n."
    private static void moreAddsToKnown(Check check) {
        for (int n = 1; n <= 5; n++) {
            TabledOrigin x = Steps.twoAtRisk();
            for (int i = 0; i < n; i++) {
                x.insert();
            }
            x.report();
            counts(check, x, 0, 2, 2);
            check.due("MORE", x.feedback(), Steps.MORE);
            counts(check, x, n, 2, n < 3 ? 2 : n < 5 ? 1 : 0);
        }
    }

    private static void moreBehindAnAck(Check check) {
        TabledOrigin x = Steps.twoAtRisk();
        Steps.takeInstructions(x);
        x.reply(0);
        x.report();
        x.feedback();
        counts(check, x, 3, 1, 1);
        x.feedback();
        counts(check, x, 5, 1, 0);
    }
}
