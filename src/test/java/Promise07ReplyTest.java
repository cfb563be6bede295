public final class Promise07ReplyTest {
    public static void main(String[] args) {
        Check check = new Check();
        outcomes(check);
        blockedUntilTheNeedHasCome(check);
        anOlderAnswerStoresNothing(check);
        stillGoodRenews(check);
        stillGoodLeavesAnotherTagAlone(check);
        stillGoodBringsNothingBack(check);
        stillGoodLeavesANewerRequestAlone(check);
        absentForgets(check);
        writtenForgets(check);
        failedForgetsNothing(check);
        acknowledgesWhatItNeeded(check);
        noneInEachOutcome(check);
        noneWithoutAnAnswer(check);
        wrongInputs(check);
        check.finish();
    }

    private static void outcomes(Check check) {
        TabledOrigin x = new TabledOrigin();
        check.due("absent", reply(x, x.get(0)), Steps.ABSENT);
        check.due("written", reply(x, x.replace(0, 7, 0)), Steps.WRITTEN);
        check.due("found", reply(x, x.get(0)), Steps.FOUND);
        check.due("still good", reply(x, x.get(0)), Steps.STILL_GOOD);
        x.put(0, 8, 0);
        check.due("failed", reply(x, x.replace(0, 9, 0)), Steps.FAILED);
        check.due("found content", x.content(2), 7);
        check.due("still good content", x.content(3), 7);
        for (int request = 0; request < 5; request++) {
            check.due("a second reply", x.reply(request), Steps.NONE);
        }
    }

    private static int reply(TabledOrigin x, int request) {
        x.arrive(request);
        Steps.takeInstructions(x);
        return x.reply(request);
    }

    private static void blockedUntilTheNeedHasCome(Check check) {
        TabledOrigin x = new TabledOrigin();
        x.put(0, 100, 10);
        int first = x.get(0);
        int second = x.get(0);
        x.arrive(first);
        x.arrive(second);
        check.due("blocked", x.reply(first), Steps.PENDING);
        check.due("under way no more", x.reply(first), Steps.NONE);
        check.due("blocked answers", x.count(Steps.BLOCKED), 1);
        check.due("pending", x.outcome(first), Steps.PENDING);
        x.insert();
        x.insert();
        check.due("one is missing", x.reply(second), Steps.PENDING);
        x.insert();
        check.due("both were read", x.outcome(second), Steps.FOUND);
    }

    private static void anOlderAnswerStoresNothing(Check check) {
        TabledOrigin x = new TabledOrigin();
        x.put(0, 100, 10);
        int old = x.get(0);
        x.arrive(old);
        x.put(0, 101, 20);
        Steps.fetch(x, 0);
        check.due("found", x.reply(old), Steps.FOUND);
        check.due("its own content", x.content(old), 100);
        check.due("the newer stays: content", x.stored(0, 1), 101);
        check.due("the newer stays: tag", x.stored(0, 0), 2);
        check.due("the newer stays: request", x.stored(0, 2), 1);
    }

    private static void stillGoodRenews(Check check) {
        TabledOrigin x = new TabledOrigin();
        x.put(0, 100, 10);
        Steps.fetch(x, 0);
        x.tick(15);
        int again = x.get(0);
        x.tick(4);
        Steps.finish(x, again);
        check.due("still good", x.outcome(again), Steps.STILL_GOOD);
        check.due("since the sending", x.stored(0, 3), 6);
        check.due("request", x.stored(0, 2), again);
        check.due("content", x.stored(0, 1), 100);
    }

    // Request 1 is answered and read late, with a newer tag than the one that request 2 asks about.
    private static void stillGoodLeavesAnotherTagAlone(Check check) {
        TabledOrigin x = new TabledOrigin();
        x.put(0, 100, 0);
        Steps.fetch(x, 0);
        int slow = x.get(0);
        int quick = x.get(0);
        check.due("its tag", x.arrive(quick), 304);
        x.put(0, 101, 50);
        check.due("another tag", x.arrive(slow), 200);
        Steps.takeInstructions(x);
        x.reply(slow);
        check.due("the newer tag is stored", x.stored(0, 0), 2);
        check.due("still good", x.reply(quick), Steps.STILL_GOOD);
        check.due("the content it kept", x.content(quick), 100);
        check.due("tag stays", x.stored(0, 0), 2);
        check.due("request stays", x.stored(0, 2), slow);
        check.due("lifetime stays", x.stored(0, 3), 50);
    }

    private static void stillGoodBringsNothingBack(Check check) {
        TabledOrigin x = new TabledOrigin();
        x.put(0, 100, 10);
        Steps.fetch(x, 0);
        x.tick(10);
        int again = x.get(0);
        x.arrive(again);
        x.drop(0);
        check.due("absent", x.outcome(Steps.fetch(x, 0)), Steps.ABSENT);
        check.due("still good", x.reply(again), Steps.STILL_GOOD);
        check.due("the content it kept", x.content(again), 100);
        check.due("nothing is stored", x.stored(0, 0), Steps.NONE);
    }

    private static void stillGoodLeavesANewerRequestAlone(Check check) {
        TabledOrigin x = new TabledOrigin();
        x.put(0, 100, 10);
        Steps.fetch(x, 0);
        x.tick(10);
        int old = x.get(0);
        x.tick(5);
        int newer = x.get(0);
        x.arrive(old);
        Steps.finish(x, newer);
        check.due("renewed by the newer", x.stored(0, 3), 10);
        check.due("still good", x.reply(old), Steps.STILL_GOOD);
        check.due("the newer stays", x.stored(0, 2), newer);
        check.due("its since stays", x.stored(0, 3), 10);
    }

    private static void absentForgets(Check check) {
        TabledOrigin x = new TabledOrigin();
        int early = x.get(0);
        x.arrive(early);
        x.put(0, 100, 0);
        x.put(1, 200, 0);
        Steps.fetch(x, 0);
        Steps.fetch(x, 1);
        check.due("absent, told late", x.reply(early), Steps.ABSENT);
        check.due("the newer stays", x.stored(0, 2), 1);
        x.drop(0);
        Steps.fetch(x, 0);
        check.due("stored no more", x.stored(0, 0), Steps.NONE);
        check.due("the other resource stays", x.stored(1, 0), 2);
    }

    private static void writtenForgets(Check check) {
        TabledOrigin x = new TabledOrigin();
        int early = x.replace(0, 5, 0);
        x.arrive(early);
        Steps.fetch(x, 0);
        check.due("written, told late", x.reply(early), Steps.WRITTEN);
        check.due("the newer stays", x.stored(0, 2), 1);
        Steps.write(x, 0, 6, 0);
        check.due("stored no more", x.stored(0, 0), Steps.NONE);
    }

    private static void failedForgetsNothing(Check check) {
        TabledOrigin x = new TabledOrigin();
        x.put(0, 5, 0);
        Steps.fetch(x, 0);
        x.put(0, 6, 0);
        check.due("failed", x.outcome(Steps.write(x, 0, 7, 0)), Steps.FAILED);
        check.due("what is stored stays", x.stored(0, 1), 5);
    }

    private static void acknowledgesWhatItNeeded(Check check) {
        TabledOrigin x = new TabledOrigin();
        x.put(0, 100, 10);
        int absent = x.get(1);
        x.arrive(absent);
        x.reply(absent);
        check.due("no need, no ACK", x.feedback(), Steps.NONE);
        int found = x.get(0);
        x.arrive(found);
        Steps.takeInstructions(x);
        check.due("nothing told yet", x.count(Steps.TOLD), 0);
        x.reply(found);
        check.due("told", x.count(Steps.TOLD), 3);
        check.due("not known yet", x.count(Steps.KNOWN), 0);
        check.due("ACK", x.feedback(), Steps.ACK);
        check.due("known", x.count(Steps.KNOWN), 3);
        check.due("one ACK", x.feedback(), Steps.NONE);
    }

    private static void noneInEachOutcome(Check check) {
        TabledOrigin x = Steps.allOutcomes();
        for (int request = 0; request < 10; request++) {
            boolean underWay = request == 7;
            check.due("reply to " + request, x.reply(request), underWay ? Steps.ABSENT : Steps.NONE);
        }
        check.due("it has come already", x.reply(7), Steps.NONE);
    }

    private static void noneWithoutAnAnswer(Check check) {
        TabledOrigin x = new TabledOrigin();
        x.put(0, 1, 0);
        x.get(0);
        check.due("the request is under way", x.reply(0), Steps.NONE);
        x.arrive(0);
        check.due("blocked", x.reply(0), Steps.PENDING);
        check.due("blocked already", x.reply(0), Steps.NONE);
        Steps.takeInstructions(x);
        check.due("read already", x.reply(0), Steps.NONE);
        x.get(0);
        x.goaway();
        x.arrive(1);
        check.due("thrown away", x.reply(1), Steps.NONE);
    }

    private static void wrongInputs(Check check) {
        TabledOrigin x = new TabledOrigin();
        x.get(0);
        int[] wrong = {-1, 0, 1, 60, Integer.MIN_VALUE, Integer.MAX_VALUE};
        for (int request : wrong) {
            check.due("reply to " + request, x.reply(request), Steps.NONE);
        }
        x.arrive(0);
        x.cancel(0);
        check.due("reply to a cancelled one", x.reply(0), Steps.NONE);
    }
}
