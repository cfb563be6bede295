/** The edges in "Terms" of how the client waits for, reads and stores answers; each sentence stands above its test. */
public final class TermsReadingTest {
    public static void main(String[] args) {
        Check check = new Check();
        instructionsComeOneByOne(check);
        answersAndInstructionsTakeTheirOwnRoads(check);
        blockedWhenTheNeedIsGreater(check);
        blockedUntilThatIsNoLongerSo(check);
        foundIsStoredWhenNothingIs(check);
        foundReplacesAnOlderRequest(check);
        foundLeavesANewerRequest(check);
        foundIsStoredAgainBehindANewerAbsence(check);
        foundIsStoredWhenANewerOneIsForgotten(check);
        stillGoodRenewsAnOlderRequest(check);
        stillGoodTakesSinceFromItsSending(check);
        stillGoodLeavesANewerRequest(check);
        stillGoodLeavesAnotherTag(check);
        stillGoodStoresNothing(check);
        absentForgetsAnOlderRequest(check);
        absentLeavesANewerRequest(check);
        absentWithNothingStored(check);
        writtenForgetsAnOlderRequest(check);
        writtenLeavesANewerRequest(check);
        writtenWithNothingStored(check);
        failedLeavesAll(check);
        otherResourcesStay(check);
        acknowledgedWhenTheNeedIsNotZero(check);
        toldNeverFalls(check);
        check.finish();
    }

    private static void stored(Check check, TabledOrigin x, int tag, int content, int request, int left) {
        int[] due = {tag, content, request, left};
        for (int which = 0; which < due.length; which++) {
            check.due("stored " + which, x.stored(0, which), due[which]);
        }
    }

    private static void nothingStored(Check check, TabledOrigin x) {
        stored(check, x, Steps.NONE, Steps.NONE, Steps.NONE, Steps.NONE);
    }

    private static int arriveAndReply(TabledOrigin x, int request) {
        x.arrive(request);
        Steps.takeInstructions(x);
        return x.reply(request);
    }

    // "instructions come to it one by one in order"
    private static void instructionsComeOneByOne(Check check) {
        TabledOrigin x = Steps.twoAtRisk();
        for (int come = 0; come < 5; come++) {
            check.due("come", x.count(Steps.COME), come);
            check.due("insert", x.insert(), 0);
        }
        check.due("come", x.count(Steps.COME), 5);
        check.due("none is under way", x.insert(), Steps.NONE);
        check.due("come", x.count(Steps.COME), 5);
    }

    // "The answer itself is under way to the client by its own road."
    private static void answersAndInstructionsTakeTheirOwnRoads(Check check) {
        TabledOrigin x = Steps.twoAtRisk();
        Steps.takeInstructions(x);
        check.due("the instructions first, the later answer first", x.reply(1), Steps.FOUND);
        check.due("and then the other", x.reply(0), Steps.FOUND);
        TabledOrigin y = Steps.twoAtRisk();
        check.due("the answers first", y.reply(1), Steps.PENDING);
        check.due("and then the other", y.reply(0), Steps.PENDING);
    }

    // "When it comes and its need is greater than the number of instructions that have come, it is BLOCKED"
    private static void blockedWhenTheNeedIsGreater(Check check) {
        for (int come = 0; come <= 3; come++) {
            TabledOrigin x = new TabledOrigin();
            x.put(0, 4, 10);
            x.arrive(x.get(0));
            for (int i = 0; i < come; i++) {
                x.insert();
            }
            check.due("need 3, come " + come, x.reply(0), come < 3 ? Steps.PENDING : Steps.FOUND);
            check.due("blocked", x.count(Steps.BLOCKED), come < 3 ? 1 : 0);
            check.due("outcome", x.outcome(0), come < 3 ? Steps.PENDING : Steps.FOUND);
            check.due("stored", x.stored(0, 0), come < 3 ? Steps.NONE : 1);
        }
    }

    // "until that is no longer so; else, or then, the client READS it"
    private static void blockedUntilThatIsNoLongerSo(Check check) {
        TabledOrigin x = Steps.twoAtRisk();
        x.reply(0);
        x.reply(1);
        int[] read = {0, 0, 1, 0, 1};
        int blocked = 2;
        for (int due : read) {
            check.due("read", x.insert(), due);
            blocked -= due;
            check.due("blocked", x.count(Steps.BLOCKED), blocked);
        }
        check.due("content of the first", x.content(0), 100);
        check.due("content of the second", x.content(1), 200);
    }

    // "if no answer is stored for the resource, or the request of the stored one is less than q, the stored
    // answer becomes this tag, content and lifetime, with q's sent time as its since, and the request q"
    private static void foundIsStoredWhenNothingIs(Check check) {
        TabledOrigin x = new TabledOrigin();
        x.tick(7);
        x.put(0, 4, 10);
        int request = x.get(0);
        x.tick(1);
        nothingStored(check, x);
        check.due("found", arriveAndReply(x, request), Steps.FOUND);
        check.due("content", x.content(request), 4);
        stored(check, x, 1, 4, request, 9);
    }

    private static void foundReplacesAnOlderRequest(Check check) {
        TabledOrigin x = new TabledOrigin();
        x.put(0, 4, 10);
        Steps.fetch(x, 0);
        x.tick(10);
        x.put(0, 5, 20);
        int newer = x.get(0);
        x.tick(2);
        check.due("found", arriveAndReply(x, newer), Steps.FOUND);
        stored(check, x, 2, 5, newer, 18);
    }

    private static void foundLeavesANewerRequest(Check check) {
        TabledOrigin x = new TabledOrigin();
        x.put(0, 4, 10);
        int older = x.get(0);
        x.tick(1);
        int newer = x.get(0);
        x.arrive(newer);
        x.put(0, 5, 20);
        x.arrive(older);
        Steps.takeInstructions(x);
        x.reply(newer);
        stored(check, x, 1, 4, newer, 10);
        check.due("found", x.reply(older), Steps.FOUND);
        check.due("its own content", x.content(older), 5);
        stored(check, x, 1, 4, newer, 10);
    }

    // Nothing is kept of a request that has forgotten an answer, so an older one may store again.
    private static void foundIsStoredAgainBehindANewerAbsence(Check check) {
        TabledOrigin x = new TabledOrigin();
        x.put(0, 4, 10);
        Steps.fetch(x, 0);
        x.tick(10);
        x.put(0, 5, 20);
        int older = x.get(0);
        x.arrive(older);
        x.drop(0);
        check.due("absent", arriveAndReply(x, x.get(0)), Steps.ABSENT);
        nothingStored(check, x);
        check.due("found", x.reply(older), Steps.FOUND);
        stored(check, x, 2, 5, older, 20);
    }

    private static void foundIsStoredWhenANewerOneIsForgotten(Check check) {
        TabledOrigin x = new TabledOrigin();
        x.put(0, 4, 10);
        int older = x.get(0);
        x.arrive(older);
        int newer = Steps.fetch(x, 0);
        stored(check, x, 1, 4, newer, 10);
        x.drop(0);
        x.tick(10);
        Steps.fetch(x, 0);
        nothingStored(check, x);
        check.due("found", x.reply(older), Steps.FOUND);
        stored(check, x, 1, 4, older, 0);
    }

    // "if an answer is stored whose tag is that of the answer and whose request is less than q, its lifetime
    // becomes that of the answer, its since q's sent time, its request q"
    private static void stillGoodRenewsAnOlderRequest(Check check) {
        TabledOrigin x = new TabledOrigin();
        x.put(0, 4, 10);
        Steps.fetch(x, 0);
        x.tick(25);
        stored(check, x, 1, 4, 0, 0);
        int again = x.get(0);
        check.due("still good", arriveAndReply(x, again), Steps.STILL_GOOD);
        check.due("content", x.content(again), 4);
        stored(check, x, 1, 4, again, 10);
        check.due("fresh again", x.outcome(x.get(0)), Steps.CACHED);
    }

    private static void stillGoodTakesSinceFromItsSending(Check check) {
        TabledOrigin x = new TabledOrigin();
        x.put(0, 4, 10);
        Steps.fetch(x, 0);
        x.tick(10);
        int again = x.get(0);
        x.tick(3);
        x.arrive(again);
        x.tick(4);
        x.reply(again);
        stored(check, x, 1, 4, again, 3);
    }

    private static void stillGoodLeavesANewerRequest(Check check) {
        TabledOrigin x = new TabledOrigin();
        x.put(0, 4, 10);
        Steps.fetch(x, 0);
        x.tick(10);
        int older = x.get(0);
        x.tick(1);
        int newer = x.get(0);
        x.arrive(older);
        x.arrive(newer);
        check.due("the newer first", x.reply(newer), Steps.STILL_GOOD);
        check.due("then the older", x.reply(older), Steps.STILL_GOOD);
        check.due("content", x.content(older), 4);
        stored(check, x, 1, 4, newer, 10);
    }

    private static void stillGoodLeavesAnotherTag(Check check) {
        TabledOrigin x = new TabledOrigin();
        x.put(0, 4, 0);
        Steps.fetch(x, 0);
        int older = x.get(0);
        x.tick(5);
        int newer = x.get(0);
        check.due("its tag", x.arrive(newer), 304);
        x.put(0, 5, 50);
        check.due("another tag", x.arrive(older), 200);
        Steps.takeInstructions(x);
        x.reply(older);
        stored(check, x, 2, 5, older, 45);
        check.due("still good", x.reply(newer), Steps.STILL_GOOD);
        check.due("the content it kept", x.content(newer), 4);
        stored(check, x, 2, 5, older, 45);
    }

    private static void stillGoodStoresNothing(Check check) {
        TabledOrigin x = new TabledOrigin();
        x.put(0, 4, 10);
        Steps.fetch(x, 0);
        x.tick(10);
        int slow = x.get(0);
        check.due("its tag", x.arrive(slow), 304);
        Steps.write(x, 0, 5, 10);
        nothingStored(check, x);
        check.due("still good", x.reply(slow), Steps.STILL_GOOD);
        check.due("the content it kept", x.content(slow), 4);
        nothingStored(check, x);
    }

    // "404: ABSENT; 200 to a PUT: WRITTEN; in these two cases a stored answer whose request is less than q is
    // stored no more."
    private static void absentForgetsAnOlderRequest(Check check) {
        TabledOrigin x = new TabledOrigin();
        x.put(0, 4, 0);
        Steps.fetch(x, 0);
        x.drop(0);
        check.due("absent", arriveAndReply(x, x.get(0)), Steps.ABSENT);
        nothingStored(check, x);
    }

    private static void absentLeavesANewerRequest(Check check) {
        TabledOrigin x = new TabledOrigin();
        int older = x.get(0);
        x.arrive(older);
        x.put(0, 4, 10);
        int newer = Steps.fetch(x, 0);
        check.due("absent", x.reply(older), Steps.ABSENT);
        stored(check, x, 1, 4, newer, 10);
    }

    private static void absentWithNothingStored(Check check) {
        TabledOrigin x = new TabledOrigin();
        check.due("absent", arriveAndReply(x, x.get(0)), Steps.ABSENT);
        nothingStored(check, x);
    }

    private static void writtenForgetsAnOlderRequest(Check check) {
        TabledOrigin x = new TabledOrigin();
        x.put(0, 4, 10);
        Steps.fetch(x, 0);
        int put = x.replace(0, 5, 10);
        x.arrive(put);
        stored(check, x, 1, 4, 0, 10);
        Steps.takeInstructions(x);
        check.due("written", x.reply(put), Steps.WRITTEN);
        check.due("no content", x.content(put), 0);
        nothingStored(check, x);
        check.due("fresh no more", x.outcome(x.get(0)), Steps.PENDING);
    }

    private static void writtenLeavesANewerRequest(Check check) {
        TabledOrigin x = new TabledOrigin();
        int older = x.replace(0, 4, 10);
        x.arrive(older);
        int newer = Steps.fetch(x, 0);
        check.due("written", x.reply(older), Steps.WRITTEN);
        stored(check, x, 1, 4, newer, 10);
    }

    private static void writtenWithNothingStored(Check check) {
        TabledOrigin x = new TabledOrigin();
        check.due("written", arriveAndReply(x, x.replace(0, 4, 10)), Steps.WRITTEN);
        nothingStored(check, x);
    }

    // "412: FAILED."
    private static void failedLeavesAll(Check check) {
        TabledOrigin x = new TabledOrigin();
        x.put(0, 4, 10);
        Steps.fetch(x, 0);
        x.put(0, 5, 20);
        int put = x.replace(0, 6, 30);
        check.due("failed", arriveAndReply(x, put), Steps.FAILED);
        check.due("no content", x.content(put), 0);
        stored(check, x, 1, 4, 0, 10);
    }

    private static void otherResourcesStay(Check check) {
        TabledOrigin x = new TabledOrigin();
        x.put(0, 4, 10);
        x.put(1, 5, 20);
        Steps.fetch(x, 0);
        Steps.fetch(x, 1);
        Steps.fetch(x, 2);
        Steps.write(x, 3, 0, 0);
        x.tick(5);
        Steps.write(x, 1, 6, 20);
        Steps.fetch(x, 1);
        stored(check, x, 1, 4, 0, 5);
    }

    // "If the need is not 0, q is then ACKNOWLEDGED: the client puts ACK q on its feedback."
    private static void acknowledgedWhenTheNeedIsNotZero(Check check) {
        TabledOrigin x = new TabledOrigin();
        arriveAndReply(x, x.get(0));
        check.due("404", x.feedback(), Steps.NONE);
        arriveAndReply(x, x.replace(0, 4, 0));
        check.due("200 to a PUT", x.feedback(), Steps.ACK);
        arriveAndReply(x, x.get(0));
        check.due("200 to a GET", x.feedback(), Steps.ACK);
        arriveAndReply(x, x.get(0));
        check.due("304", x.feedback(), Steps.ACK);
        x.put(0, 5, 0);
        arriveAndReply(x, x.replace(0, 6, 0));
        check.due("412", x.feedback(), Steps.NONE);
        x.arrive(x.replace(1, 0, 0));
        x.arrive(x.replace(2, 0, 0));
        int literal = x.replace(3, 0, 0);
        x.arrive(literal);
        check.due("literals alone", x.reply(literal), Steps.WRITTEN);
        check.due("no ACK", x.feedback(), Steps.NONE);
    }

    // "TOLD is a number that the client keeps, 0 at first; it becomes the need of the answer that is
    // acknowledged, if that is greater."
    private static void toldNeverFalls(Check check) {
        TabledOrigin x = Steps.twoAtRisk();
        check.due("told at first", x.count(Steps.TOLD), 0);
        Steps.takeInstructions(x);
        check.due("told by no instruction", x.count(Steps.TOLD), 0);
        x.reply(1);
        check.due("told", x.count(Steps.TOLD), 5);
        x.reply(0);
        check.due("the need 3 is less", x.count(Steps.TOLD), 5);
        TabledOrigin y = Steps.twoAtRisk();
        Steps.takeInstructions(y);
        y.reply(0);
        check.due("told", y.count(Steps.TOLD), 3);
        y.reply(1);
        check.due("the need 5 is greater", y.count(Steps.TOLD), 5);
    }
}
