public final class Promise06ArriveTest {
    public static void main(String[] args) {
        Check check = new Check();
        statusesOfGet(check);
        arrivesOnce(check);
        anyOrder(check);
        thrownAwayBehindTheLimit(check);
        allAreThrownAwayBehindLimitZero(check);
        thrownAwayStaysPendingUntilTheNotice(check);
        noneInEachOutcome(check);
        fieldsBecomeEntries(check);
        sameFieldsAreReferences(check);
        literalsWhenRiskIsNotAllowed(check);
        needEqualToKnownIsNoRisk(check);
        knownEntriesNeedNoRisk(check);
        noRoomWhileTheOldestIsUnknown(check);
        noRoomWhileTheOldestIsReferredTo(check);
        noRoomWhenThisAnswerRefersToTheOldest(check);
        noFieldsNoNeed(check);
        wrongInputs(check);
        check.finish();
    }

    private static void statusesOfGet(Check check) {
        TabledOrigin x = new TabledOrigin();
        check.due("absent", x.arrive(x.get(0)), 404);
        x.put(0, 1, 0);
        check.due("there", x.arrive(x.get(0)), 200);
        Steps.fetch(x, 0);
        check.due("its tag", x.arrive(x.get(0)), 304);
        x.put(0, 1, 0);
        check.due("the same content with a new tag", x.arrive(x.get(0)), 200);
    }

    private static void arrivesOnce(Check check) {
        TabledOrigin x = new TabledOrigin();
        int request = x.get(0);
        check.due("arrive", x.arrive(request), 404);
        check.due("again", x.arrive(request), Steps.NONE);
        check.due("read", x.reply(request), Steps.ABSENT);
        check.due("after the reply", x.arrive(request), Steps.NONE);
    }

    private static void anyOrder(Check check) {
        TabledOrigin x = new TabledOrigin();
        x.put(0, 1, 0);
        x.get(0);
        x.replace(0, 2, 0);
        x.get(0);
        check.due("last", x.arrive(2), 200);
        check.due("middle", x.arrive(1), 200);
        check.due("first", x.arrive(0), 200);
        check.due("content after the PUT", x.entry(0, 1), 2);
    }

    private static void thrownAwayBehindTheLimit(Check check) {
        TabledOrigin x = new TabledOrigin();
        x.put(0, 1, 0);
        x.get(0);
        x.get(0);
        x.get(0);
        x.replace(1, 5, 5);
        x.arrive(1);
        check.due("limit", x.goaway(), 2);
        check.due("less than the limit", x.arrive(0), 200);
        check.due("the limit itself", x.arrive(2), 0);
        check.due("a PUT behind it", x.arrive(3), 0);
        check.due("it has written nothing", x.drop(1), false);
        check.due("pending", x.outcome(2), Steps.PENDING);
        check.due("under way no more", x.arrive(2), Steps.NONE);
        check.due("no answer", x.reply(2), Steps.NONE);
    }

    private static void allAreThrownAwayBehindLimitZero(Check check) {
        TabledOrigin x = new TabledOrigin();
        x.put(0, 1, 0);
        x.get(0);
        check.due("limit", x.goaway(), 0);
        check.due("request 0 is not less", x.arrive(0), 0);
        check.due("a later one too", x.arrive(x.get(0)), 0);
        check.due("no fields", x.count(Steps.MADE) + x.count(Steps.LITERALS), 0);
    }

    private static void thrownAwayStaysPendingUntilTheNotice(Check check) {
        TabledOrigin x = new TabledOrigin();
        x.get(0);
        x.goaway();
        x.arrive(0);
        x.tick(1000);
        check.due("no answer comes", x.reply(0), Steps.NONE);
        check.due("pending", x.outcome(0), Steps.PENDING);
        x.notice();
        check.due("refused", x.outcome(0), Steps.REFUSED);
    }

    private static void noneInEachOutcome(Check check) {
        TabledOrigin x = Steps.allOutcomes();
        for (int request = 0; request < 10; request++) {
            check.due("arrive of " + request, x.arrive(request), Steps.NONE);
        }
    }

    private static void fieldsBecomeEntries(Check check) {
        TabledOrigin x = new TabledOrigin();
        x.put(0, 100, 10);
        x.arrive(x.get(0));
        int[][] due = {{2, 100}, {1, 10}, {0, 1}};
        for (int k = 0; k < due.length; k++) {
            check.due("name " + k, x.entry(k, 0), due[k][0]);
            check.due("value " + k, x.entry(k, 1), due[k][1]);
            check.due("references " + k, x.entry(k, 2), 1);
        }
        x.arrive(x.replace(1, 300, 30));
        check.due("a PUT makes the tag alone", x.count(Steps.MADE), 4);
        check.due("name", x.entry(0, 0), 0);
        check.due("value", x.entry(0, 1), 2);
    }

    private static void sameFieldsAreReferences(Check check) {
        TabledOrigin x = new TabledOrigin();
        x.put(0, 10, 10);
        x.arrive(x.get(0));
        check.due("one value, two names, two entries", x.count(Steps.MADE), 3);
        x.arrive(x.get(0));
        check.due("no new entries", x.count(Steps.MADE), 3);
        check.due("references", x.count(Steps.REFERENCES), 6);
        check.due("literals", x.count(Steps.LITERALS), 0);
        check.due("both refer", x.entry(0, 2), 2);
    }

    private static void literalsWhenRiskIsNotAllowed(Check check) {
        TabledOrigin x = Steps.twoAtRisk();
        check.due("at risk", x.count(Steps.AT_RISK), 2);
        x.arrive(x.get(0));
        check.due("literals, though live entries are the same", x.count(Steps.LITERALS), 3);
        check.due("not outstanding", x.count(Steps.OUTSTANDING), 2);
        check.due("read at once", x.reply(2), Steps.FOUND);
        check.due("content", x.content(2), 100);
        check.due("no ACK", x.feedback(), Steps.NONE);
    }

    private static void needEqualToKnownIsNoRisk(Check check) {
        TabledOrigin x = Steps.twoAtRisk();
        for (int i = 0; i < 3; i++) {
            x.insert();
        }
        x.report();
        x.feedback();
        check.due("known", x.count(Steps.KNOWN), 3);
        check.due("need 3 is at risk no more", x.count(Steps.AT_RISK), 1);
        x.put(2, 300, 10);
        x.arrive(x.get(2));
        check.due("risk is allowed but there is no room", x.count(Steps.LITERALS), 2);
        check.due("reference to (1,10)", x.entry(3, 2), 3);
    }

    private static void knownEntriesNeedNoRisk(Check check) {
        TabledOrigin x = new TabledOrigin();
        x.put(0, 100, 10);
        x.put(1, 101, 10);
        x.put(2, 102, 10);
        Steps.fetch(x, 0);
        x.arrive(x.replace(3, 0, 0));
        x.arrive(x.replace(4, 0, 0));
        check.due("at risk", x.count(Steps.AT_RISK), 2);
        int before = x.count(Steps.REFERENCES);
        int request = x.get(1);
        x.arrive(request);
        check.due("the known (1,10) alone is referred to", x.count(Steps.REFERENCES) - before, 1);
        check.due("tag and content are literals", x.count(Steps.LITERALS), 2);
        check.due("outstanding", x.count(Steps.OUTSTANDING), 3);
        check.due("not at risk", x.count(Steps.AT_RISK), 2);
        check.due("read at once", x.reply(request), Steps.FOUND);
    }

    private static void noRoomWhileTheOldestIsUnknown(Check check) {
        TabledOrigin x = new TabledOrigin();
        x.put(0, 100, 10);
        x.put(1, 200, 10);
        x.arrive(x.get(0));
        x.arrive(x.get(1));
        x.cancel(0);
        x.cancel(1);
        Steps.takeFeedback(x);
        check.due("none outstanding", x.count(Steps.OUTSTANDING), 0);
        x.put(2, 300, 30);
        x.arrive(x.get(2));
        check.due("five live, none known", x.count(Steps.LITERALS), 3);
        check.due("no new entry", x.count(Steps.MADE), 5);
        x.insert();
        x.report();
        x.feedback();
        x.arrive(x.get(2));
        check.due("one known, one made", x.count(Steps.MADE), 6);
        check.due("then the oldest is not less than KNOWN", x.count(Steps.LITERALS), 5);
    }

    private static void noRoomWhileTheOldestIsReferredTo(Check check) {
        TabledOrigin x = Steps.fullTable();
        x.tick(10);
        int asked = x.get(0);
        check.due("304", x.arrive(asked), 304);
        check.due("the oldest is referred to", x.entry(4, 2), 1);
        x.put(2, 300, 10);
        int blocked = x.get(2);
        x.arrive(blocked);
        check.due("no new entry", x.count(Steps.MADE), 5);
        check.due("literals", x.count(Steps.LITERALS), 2);
        x.cancel(asked);
        x.cancel(blocked);
        Steps.takeFeedback(x);
        x.put(2, 300, 30);
        x.arrive(x.get(2));
        check.due("room again", x.count(Steps.MADE), 8);
        check.due("still five live", x.entry(5, 0), Steps.NONE);
        check.due("the oldest live one is (0,2)", x.entry(4, 1), 2);
    }

    private static void noRoomWhenThisAnswerRefersToTheOldest(Check check) {
        TabledOrigin x = Steps.fullTable();
        x.put(2, 300, 10);
        x.arrive(x.get(2));
        check.due("the tag takes the place of (0,1)", x.count(Steps.MADE), 6);
        check.due("the lifetime is the oldest now", x.entry(4, 0), 1);
        check.due("and referred to", x.entry(4, 2), 1);
        check.due("so the content is a literal", x.count(Steps.LITERALS), 1);
    }

    private static void noFieldsNoNeed(Check check) {
        TabledOrigin x = new TabledOrigin();
        x.put(0, 1, 0);
        Steps.fetch(x, 0);
        int put = x.replace(0, 2, 2);
        x.put(0, 3, 3);
        int references = x.count(Steps.REFERENCES);
        check.due("failed", x.arrive(put), 412);
        check.due("absent", x.arrive(x.get(1)), 404);
        check.due("no reference", x.count(Steps.REFERENCES), references);
        check.due("no literal", x.count(Steps.LITERALS), 0);
        check.due("none outstanding", x.count(Steps.OUTSTANDING), 0);
    }

    private static void wrongInputs(Check check) {
        TabledOrigin x = new TabledOrigin();
        x.get(0);
        int[] wrong = {-1, 1, 59, 60, Integer.MIN_VALUE, Integer.MAX_VALUE};
        for (int request : wrong) {
            check.due("arrive of " + request, x.arrive(request), Steps.NONE);
        }
        x.cancel(0);
        check.due("arrive of a cancelled one", x.arrive(0), Steps.NONE);
    }
}
