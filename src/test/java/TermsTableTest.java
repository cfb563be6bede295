/**
 * The edges in "Terms" of the table and of how each field is put down; each sentence stands above
 * its test. A PUT without a tag is the plainest answer: one field, which no live entry is.
 *
 * Two half sentences can't be told apart from outside. "the newest, were there several": no entry
 * is made while a live one is the same field. "this answer already refers to an entry with a number
 * of KNOWN or more": it could only do so with fewer than 2 others at risk, and those stay the same
 * while one answer is put down.
 */
public final class TermsTableTest {
    public static void main(String[] args) {
        Check check = new Check();
        atMostFiveAreLive(check);
        knownIsZeroAtFirst(check);
        oneReferenceIsOutstanding(check);
        noReferenceIsNotOutstanding(check);
        outstandingUntilTheAckHasCome(check);
        outstandingUntilTheCancellingHasCome(check);
        needOfTheFirstField(check);
        needOfTheMiddleField(check);
        needOfTheLastField(check);
        needOfNoReferenceIsZero(check);
        atRiskWhenTheNeedIsGreaterThanKnown(check);
        riskIsAllowedBesideOne(check);
        riskIsNotAllowedBesideTwo(check);
        knownOnesAreNoRisk(check);
        thisOneIsLeftOut(check);
        sameFieldLessThanKnown(check);
        sameFieldUnknownWithRisk(check);
        sameFieldUnknownWithoutRisk(check);
        newFieldWithoutRisk(check);
        roomWhenFewerThanFiveAreLive(check);
        roomWhenTheOldestIsKnown(check);
        noRoomWhenOutstandingRefersToTheOldest(check);
        roomWhenOutstandingRefersToAnother(check);
        noRoomWhenThisOneRefersToTheOldest(check);
        thisOneMayReferToTheNextOldest(check);
        aDeadEntryIsNotTheSameField(check);
        theFifthLiveEntryIsTheSameField(check);
        check.finish();
    }

    private static int put(TabledOrigin x, int resource) {
        int request = x.replace(resource, 0, 0);
        x.arrive(request);
        return request;
    }

    /** Entry n is (0, n + 1), made by the PUT of resource n; all known, none referred to. */
    private static TabledOrigin fiveKnownTags() {
        TabledOrigin x = new TabledOrigin();
        for (int resource = 0; resource < 5; resource++) {
            Steps.write(x, resource, 70, 7);
        }
        return x;
    }

    /** Five live entries, none known, no answer outstanding. */
    private static TabledOrigin fiveUnknown() {
        TabledOrigin x = Steps.twoAtRisk();
        x.cancel(0);
        x.cancel(1);
        Steps.takeFeedback(x);
        return x;
    }

    private static void knowOneMore(TabledOrigin x) {
        x.insert();
        x.report();
        x.feedback();
    }

    private static void made(Check check, TabledOrigin x, String when, int made, int literals) {
        check.due(when + ": made", x.count(Steps.MADE), made);
        check.due(when + ": literals", x.count(Steps.LITERALS), literals);
    }

    // "At most 5 are LIVE, always the newest ones."
    private static void atMostFiveAreLive(Check check) {
        TabledOrigin x = new TabledOrigin();
        for (int made = 1; made <= 13; made++) {
            Steps.write(x, 0, 0, 0);
            check.due("made", x.count(Steps.MADE), made);
            for (int k = 0; k < 7; k++) {
                boolean live = k < made && k < 5;
                check.due("entry " + k + " of " + made, x.entry(k, 1), live ? made - k : Steps.NONE);
            }
        }
    }

    // "KNOWN is a number, 0 at first."
    private static void knownIsZeroAtFirst(Check check) {
        TabledOrigin x = new TabledOrigin();
        check.due("known", x.count(Steps.KNOWN), 0);
        put(x, 0);
        x.insert();
        check.due("known while nothing is told", x.count(Steps.KNOWN), 0);
    }

    // "An answer with at least one reference (below) is OUTSTANDING"
    private static void oneReferenceIsOutstanding(Check check) {
        TabledOrigin x = new TabledOrigin();
        x.put(0, 4, 10);
        x.put(1, 5, 10);
        Steps.fetch(x, 0);
        put(x, 2);
        put(x, 3);
        check.due("outstanding", x.count(Steps.OUTSTANDING), 2);
        x.arrive(x.get(1));
        made(check, x, "one reference and two literals", 5, 2);
        check.due("outstanding", x.count(Steps.OUTSTANDING), 3);
    }

    private static void noReferenceIsNotOutstanding(Check check) {
        TabledOrigin x = new TabledOrigin();
        put(x, 0);
        put(x, 1);
        put(x, 2);
        made(check, x, "a literal alone", 2, 1);
        check.due("outstanding", x.count(Steps.OUTSTANDING), 2);
        x.arrive(x.get(5));
        check.due("nor without fields", x.count(Steps.OUTSTANDING), 2);
    }

    // "until it is acknowledged or its cancelling has come to the server"
    private static void outstandingUntilTheAckHasCome(Check check) {
        TabledOrigin x = new TabledOrigin();
        int request = put(x, 0);
        x.insert();
        check.due("outstanding", x.count(Steps.OUTSTANDING), 1);
        x.reply(request);
        check.due("the ACK is under way", x.count(Steps.OUTSTANDING), 1);
        x.feedback();
        check.due("it has come", x.count(Steps.OUTSTANDING), 0);
    }

    private static void outstandingUntilTheCancellingHasCome(Check check) {
        TabledOrigin x = new TabledOrigin();
        x.cancel(put(x, 0));
        check.due("the CANCEL is under way", x.count(Steps.OUTSTANDING), 1);
        check.due("and the reference stands", x.entry(0, 2), 1);
        x.feedback();
        check.due("it has come", x.count(Steps.OUTSTANDING), 0);
        check.due("and the reference is gone", x.entry(0, 2), 0);
    }

    // "its NEED is 1 more than the greatest number of an entry that it refers to"
    private static void needOfTheFirstField(Check check) {
        TabledOrigin x = new TabledOrigin();
        x.put(0, 4, 10);
        x.put(1, 4, 10);
        x.arrive(x.get(0));
        x.arrive(x.get(1));
        check.due("the tag alone is new, as entry 3", x.count(Steps.MADE), 4);
        readAtNeed(check, x, 1, 4);
    }

    private static void needOfTheMiddleField(Check check) {
        TabledOrigin x = new TabledOrigin();
        x.put(0, 4, 10);
        Steps.fetch(x, 0);
        x.arrive(x.replace(1, 4, 20));
        int request = x.get(1);
        x.arrive(request);
        check.due("the lifetime alone is new, as entry 4", x.count(Steps.MADE), 5);
        readAtNeed(check, x, request, 5);
    }

    private static void needOfTheLastField(Check check) {
        TabledOrigin x = new TabledOrigin();
        x.put(0, 4, 10);
        x.arrive(x.get(0));
        readAtNeed(check, x, 0, 3);
    }

    private static void readAtNeed(Check check, TabledOrigin x, int request, int need) {
        check.due("blocked", x.reply(request), Steps.PENDING);
        for (int come = x.count(Steps.COME) + 1; come < need; come++) {
            x.insert();
            check.due("pending with " + come, x.outcome(request), Steps.PENDING);
        }
        x.insert();
        check.due("read with " + need, x.outcome(request), Steps.FOUND);
        check.due("told", x.count(Steps.TOLD), need);
    }

    // "the need of an answer without references is 0"
    private static void needOfNoReferenceIsZero(Check check) {
        TabledOrigin x = Steps.twoAtRisk();
        x.arrive(x.get(0));
        made(check, x, "three literals", 5, 3);
        check.due("read before any instruction", x.reply(2), Steps.FOUND);
        check.due("not acknowledged", x.feedback(), Steps.NONE);
        check.due("told", x.count(Steps.TOLD), 0);
    }

    // "An outstanding answer is AT RISK when its need is greater than KNOWN."
    private static void atRiskWhenTheNeedIsGreaterThanKnown(Check check) {
        TabledOrigin x = new TabledOrigin();
        x.put(0, 4, 10);
        x.arrive(x.get(0));
        for (int known = 0; known <= 3; known++) {
            check.due("known", x.count(Steps.KNOWN), known);
            check.due("need 3 with known " + known, x.count(Steps.AT_RISK), known < 3 ? 1 : 0);
            check.due("outstanding all the while", x.count(Steps.OUTSTANDING), 1);
            knowOneMore(x);
        }
    }

    // "or fewer than 2 outstanding answers (this one left out) are at risk"
    private static void riskIsAllowedBesideOne(Check check) {
        TabledOrigin x = new TabledOrigin();
        put(x, 0);
        made(check, x, "none at risk", 1, 0);
        check.due("at risk", x.count(Steps.AT_RISK), 1);
        put(x, 1);
        made(check, x, "one at risk", 2, 0);
        check.due("at risk", x.count(Steps.AT_RISK), 2);
    }

    private static void riskIsNotAllowedBesideTwo(Check check) {
        TabledOrigin x = new TabledOrigin();
        put(x, 0);
        put(x, 1);
        put(x, 2);
        made(check, x, "two at risk", 2, 1);
        knowOneMore(x);
        check.due("one at risk again", x.count(Steps.AT_RISK), 1);
        put(x, 3);
        made(check, x, "one at risk", 3, 1);
    }

    private static void knownOnesAreNoRisk(Check check) {
        TabledOrigin x = new TabledOrigin();
        for (int i = 0; i < 4; i++) {
            put(x, i);
            knowOneMore(x);
        }
        check.due("outstanding", x.count(Steps.OUTSTANDING), 4);
        check.due("at risk", x.count(Steps.AT_RISK), 0);
        put(x, 4);
        made(check, x, "four outstanding, none at risk", 5, 0);
    }

    private static void thisOneIsLeftOut(Check check) {
        TabledOrigin x = new TabledOrigin();
        put(x, 1);
        x.put(0, 4, 10);
        x.arrive(x.get(0));
        made(check, x, "three new fields beside one at risk", 4, 0);
        check.due("references", x.count(Steps.REFERENCES), 4);
    }

    // "A live entry is the same field, and its number is less than KNOWN or risk is allowed: a REFERENCE to it"
    private static void sameFieldLessThanKnown(Check check) {
        for (int known = 0; known <= 2; known++) {
            TabledOrigin x = new TabledOrigin();
            x.put(0, 4, 10);
            x.arrive(x.get(0));
            put(x, 1);
            for (int i = 0; i < known; i++) {
                knowOneMore(x);
            }
            check.due("two at risk", x.count(Steps.AT_RISK), 2);
            int again = x.get(0);
            x.arrive(again);
            made(check, x, "known " + known, 4, 3 - known);
            check.due("references", x.count(Steps.REFERENCES), 4 + known);
            for (int number = 0; number < 3; number++) {
                check.due("references to " + number, x.entry(3 - number, 2), number < known ? 2 : 1);
            }
            check.due("not blocked", x.reply(again), Steps.FOUND);
        }
    }

    private static void sameFieldUnknownWithRisk(Check check) {
        TabledOrigin x = new TabledOrigin();
        x.put(0, 4, 10);
        x.arrive(x.get(0));
        x.arrive(x.get(0));
        made(check, x, "beside one at risk", 3, 0);
        check.due("references", x.count(Steps.REFERENCES), 6);
        check.due("at risk", x.count(Steps.AT_RISK), 2);
    }

    // "Else, when no live entry is the same field, risk is allowed, and there is room" ... "Else it is a LITERAL."
    private static void sameFieldUnknownWithoutRisk(Check check) {
        TabledOrigin x = new TabledOrigin();
        x.put(0, 4, 10);
        x.arrive(x.get(0));
        put(x, 1);
        x.arrive(x.get(0));
        made(check, x, "room, but no risk and the same field is live", 4, 3);
    }

    private static void newFieldWithoutRisk(Check check) {
        TabledOrigin x = new TabledOrigin();
        put(x, 0);
        put(x, 1);
        x.put(2, 4, 10);
        x.arrive(x.get(2));
        made(check, x, "room, but no risk", 2, 3);
        check.due("no reference", x.count(Steps.REFERENCES), 2);
    }

    // "There is ROOM when fewer than 5 entries are live"
    private static void roomWhenFewerThanFiveAreLive(Check check) {
        TabledOrigin x = new TabledOrigin();
        for (int live = 0; live < 5; live++) {
            made(check, x, "live", live, 0);
            x.cancel(put(x, live));
            x.feedback();
        }
        made(check, x, "room up to five, though none is known", 5, 0);
        put(x, 5);
        made(check, x, "no room for a sixth", 5, 1);
        check.due("the oldest is live", x.entry(4, 1), 1);
    }

    // "or when the oldest live one has a number less than KNOWN"
    private static void roomWhenTheOldestIsKnown(Check check) {
        TabledOrigin x = fiveUnknown();
        for (int oldest = 0; oldest < 4; oldest++) {
            x.cancel(put(x, 5));
            made(check, x, "oldest and KNOWN are " + oldest, 5 + oldest, oldest + 1);
            knowOneMore(x);
            Steps.takeFeedback(x);
            check.due("known", x.count(Steps.KNOWN), oldest + 1);
            x.cancel(put(x, 5));
            made(check, x, "KNOWN is 1 more than the oldest", 6 + oldest, oldest + 1);
            Steps.takeFeedback(x);
        }
    }

    // "and neither an outstanding answer nor this one refers to it"
    private static void noRoomWhenOutstandingRefersToTheOldest(Check check) {
        TabledOrigin x = new TabledOrigin();
        x.put(0, 4, 10);
        Steps.fetch(x, 0);
        Steps.write(x, 1, 0, 0);
        Steps.write(x, 2, 0, 0);
        x.tick(10);
        int asked = x.get(0);
        x.arrive(asked);
        check.due("the oldest is referred to", x.entry(4, 2), 1);
        check.due("at risk", x.count(Steps.AT_RISK), 0);
        put(x, 3);
        made(check, x, "outstanding", 5, 1);
        check.due("read", x.reply(asked), Steps.STILL_GOOD);
        put(x, 3);
        made(check, x, "the ACK is under way", 5, 2);
        x.feedback();
        put(x, 3);
        made(check, x, "the ACK has come", 6, 2);
    }

    private static void roomWhenOutstandingRefersToAnother(Check check) {
        TabledOrigin x = fiveKnownTags();
        int asked = x.get(1);
        x.arrive(asked);
        made(check, x, "(0,2) referred to; (1,7) takes the place of (0,1)", 6, 1);
        x.cancel(asked);
        put(x, 5);
        made(check, x, "(0,2) is the oldest and referred to", 6, 2);
        x.feedback();
        put(x, 5);
        made(check, x, "the cancelling has come", 7, 2);
    }

    private static void noRoomWhenThisOneRefersToTheOldest(Check check) {
        TabledOrigin x = fiveKnownTags();
        x.arrive(x.get(0));
        made(check, x, "lifetime and content have no room", 5, 2);
        check.due("one reference, to the oldest", x.entry(4, 2), 1);
    }

    private static void thisOneMayReferToTheNextOldest(Check check) {
        TabledOrigin x = fiveKnownTags();
        x.arrive(x.get(2));
        made(check, x, "lifetime and content take the places of (0,1) and (0,2)", 7, 0);
        check.due("the oldest now", x.entry(4, 1), 3);
        check.due("and referred to", x.entry(4, 2), 1);
    }

    // "then that one is live no more"
    private static void aDeadEntryIsNotTheSameField(Check check) {
        TabledOrigin x = fiveKnownTags();
        Steps.write(x, 5, 70, 7);
        check.due("(0,1) is live no more", x.entry(4, 1), 2);
        x.arrive(x.get(0));
        made(check, x, "its three fields are new", 9, 0);
        check.due("(0,1) is made again", x.entry(2, 1), 1);
        check.due("as a tag", x.entry(2, 0), 0);
    }

    private static void theFifthLiveEntryIsTheSameField(Check check) {
        TabledOrigin x = fiveKnownTags();
        int references = x.count(Steps.REFERENCES);
        x.arrive(x.get(0));
        check.due("(0,1) is live still", x.count(Steps.REFERENCES) - references, 1);
        check.due("and not made again", x.count(Steps.MADE), 5);
    }
}
