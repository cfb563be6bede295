public final class Promise13CancelTest {
    public static void main(String[] args) {
        Check check = new Check();
        underWayToTheServer(check);
        answerUnderWay(check);
        blockedAnswer(check);
        thrownAway(check);
        onlyPendingOnes(check);
        falseInEachOtherOutcome(check);
        check.finish();
    }

    private static void underWayToTheServer(Check check) {
        TabledOrigin x = new TabledOrigin();
        x.get(0);
        check.due("cancel", x.cancel(0), true);
        check.due("cancelled", x.outcome(0), Steps.CANCELLED);
        check.due("content", x.content(0), 0);
        check.due("under way no more", x.arrive(0), Steps.NONE);
        check.due("again", x.cancel(0), false);
        check.due("CANCEL", x.feedback(), Steps.CANCEL);
        check.due("one CANCEL", x.feedback(), Steps.NONE);
    }

    private static void answerUnderWay(Check check) {
        TabledOrigin x = new TabledOrigin();
        x.put(0, 100, 10);
        x.arrive(x.get(0));
        Steps.takeInstructions(x);
        check.due("cancel", x.cancel(0), true);
        check.due("its answer is under way no more", x.reply(0), Steps.NONE);
        check.due("outstanding", x.count(Steps.OUTSTANDING), 1);
        x.feedback();
        check.due("outstanding no more", x.count(Steps.OUTSTANDING), 0);
        check.due("nothing is stored", x.stored(0, 0), Steps.NONE);
    }

    private static void blockedAnswer(Check check) {
        TabledOrigin x = new TabledOrigin();
        x.put(0, 100, 10);
        x.arrive(x.get(0));
        x.reply(0);
        check.due("blocked", x.count(Steps.BLOCKED), 1);
        check.due("cancel", x.cancel(0), true);
        check.due("blocked no more", x.count(Steps.BLOCKED), 0);
        x.insert();
        x.insert();
        check.due("nothing is read", x.insert(), 0);
        check.due("cancelled", x.outcome(0), Steps.CANCELLED);
    }

    private static void thrownAway(Check check) {
        TabledOrigin x = new TabledOrigin();
        x.get(0);
        x.goaway();
        x.arrive(0);
        check.due("it is PENDING still", x.cancel(0), true);
        check.due("the notice refuses it no more", x.notice(), 0);
        check.due("cancelled", x.outcome(0), Steps.CANCELLED);
    }

    private static void falseInEachOtherOutcome(Check check) {
        TabledOrigin x = Steps.allOutcomes();
        for (int request = 0; request < 10; request++) {
            check.due("cancel of " + request, x.cancel(request), request == 7);
        }
        check.due("again", x.cancel(7), false);
        check.due("one CANCEL", x.feedback(), Steps.CANCEL);
        check.due("no more", x.feedback(), Steps.NONE);
    }

    private static void onlyPendingOnes(Check check) {
        TabledOrigin x = new TabledOrigin();
        x.put(0, 100, 10);
        Steps.fetch(x, 0);
        check.due("found", x.cancel(0), false);
        x.get(0);
        check.due("cached", x.cancel(1), false);
        x.goaway();
        x.notice();
        x.get(1);
        check.due("refused", x.cancel(2), false);
        int[] wrong = {-1, 3, 60, Integer.MIN_VALUE, Integer.MAX_VALUE};
        for (int request : wrong) {
            check.due("cancel of " + request, x.cancel(request), false);
        }
        check.due("outcome stays", x.outcome(0), Steps.FOUND);
        check.due("nothing is put on the feedback", x.feedback(), Steps.NONE);
    }
}
