/** The edges in "Terms" of how a GET or PUT is made and what becomes of it; each sentence stands above its test. */
public final class TermsRequestTest {
    public static void main(String[] args) {
        Check check = new Check();
        numbersAreZeroToFiftyNine(check);
        refusedCallsTakeNoNumber(check);
        sixtyIsFullForAFreshOneToo(check);
        onlyAPendingOneChanges(check);
        freshEndsAtTheLifetime(check);
        lifetimeZeroIsNeverFresh(check);
        anAnswerMayComeTooLateToBeFresh(check);
        aFreshGetSendsNothing(check);
        aPutIsNeverCached(check);
        freshComesBeforeTheNotice(check);
        theNoticeRefusesGetAndPut(check);
        theLimitAloneRefusesNothing(check);
        sentIsTheClock(check);
        bearsTheTagOfAStaleAnswer(check);
        bearsTheTagOfAFreshAnswer(check);
        bearsNoTagWhenNothingIsStored(check);
        bearsTheTagOfItsOwnResource(check);
        theTagIsThatOfTheMaking(check);
        theContentIsThatOfTheMaking(check);
        check.finish();
    }

    // "REQUESTS have numbers 0, 1, .., 59 in the order in which the client makes them."
    private static void numbersAreZeroToFiftyNine(Check check) {
        TabledOrigin x = new TabledOrigin();
        x.put(0, 1, 1000);
        check.due("the first", Steps.fetch(x, 0), 0);
        x.get(1);
        x.goaway();
        x.notice();
        for (int number = 2; number < 58; number += 2) {
            check.due("a cached one", x.get(0), number);
            check.due("a refused one", x.replace(0, 1, 1), number + 1);
        }
        check.due("the last but one", x.get(5), 58);
        check.due("the last", x.get(0), 59);
        check.due("its outcome", x.outcome(59), Steps.CACHED);
        check.due("no GET more", x.get(5), Steps.NONE);
        check.due("no PUT more", x.replace(5, 1, 1), Steps.NONE);
        check.due("no number 60", x.outcome(60), Steps.NONE);
    }

    private static void refusedCallsTakeNoNumber(Check check) {
        TabledOrigin x = new TabledOrigin();
        x.get(-1);
        x.get(6);
        x.replace(-1, 0, 0);
        x.replace(6, 0, 0);
        x.replace(0, 0, -1);
        x.replace(0, 0, 1001);
        check.due("the first", x.get(0), 0);
        x.get(6);
        x.replace(0, 0, 1001);
        check.due("the second", x.replace(0, 0, 0), 1);
    }

    private static void sixtyIsFullForAFreshOneToo(Check check) {
        TabledOrigin x = new TabledOrigin();
        x.put(0, 1, 1000);
        Steps.fetch(x, 0);
        for (int number = 1; number < 60; number++) {
            check.due("get", x.get(0), number);
        }
        check.due("fresh, but full", x.get(0), Steps.NONE);
        check.due("the last stays", x.outcome(59), Steps.CACHED);
    }

    // "Only a PENDING one changes it."
    private static void onlyAPendingOneChanges(Check check) {
        TabledOrigin x = Steps.allOutcomes();
        for (int request = 0; request < 9; request++) {
            int due = Steps.OUTCOMES[request];
            check.due("outcome before", x.outcome(request), due);
            if (due != Steps.PENDING) {
                x.arrive(request);
                x.reply(request);
                x.cancel(request);
            }
        }
        Steps.takeInstructions(x);
        Steps.takeFeedback(x);
        x.notice();
        for (int request = 0; request < 9; request++) {
            check.due("outcome after", x.outcome(request), Steps.OUTCOMES[request]);
        }
    }

    // "It is FRESH when the clock - since < lifetime."
    private static void freshEndsAtTheLifetime(Check check) {
        int[] lifetimes = {1, 2, 1000};
        for (int lifetime : lifetimes) {
            TabledOrigin x = new TabledOrigin();
            x.put(0, 4, lifetime);
            Steps.fetch(x, 0);
            check.due("fresh at once", x.outcome(x.get(0)), Steps.CACHED);
            x.tick(lifetime - 1);
            check.due("fresh 1 before " + lifetime, x.outcome(x.get(0)), Steps.CACHED);
            x.tick(1);
            check.due("stale at " + lifetime, x.outcome(x.get(0)), Steps.PENDING);
            x.tick(1);
            check.due("stale 1 behind " + lifetime, x.outcome(x.get(0)), Steps.PENDING);
        }
    }

    private static void lifetimeZeroIsNeverFresh(Check check) {
        TabledOrigin x = new TabledOrigin();
        x.put(0, 4, 0);
        Steps.fetch(x, 0);
        check.due("stored", x.stored(0, 1), 4);
        check.due("fresh for", x.stored(0, 3), 0);
        check.due("not cached", x.outcome(x.get(0)), Steps.PENDING);
    }

    private static void anAnswerMayComeTooLateToBeFresh(Check check) {
        TabledOrigin x = new TabledOrigin();
        x.put(0, 4, 5);
        int slow = x.get(0);
        x.tick(5);
        Steps.finish(x, slow);
        check.due("found", x.outcome(slow), Steps.FOUND);
        check.due("stored", x.stored(0, 1), 4);
        check.due("fresh for", x.stored(0, 3), 0);
        check.due("not cached", x.outcome(x.get(0)), Steps.PENDING);
    }

    // "A GET of a resource with a fresh stored answer is CACHED, with the stored content; nothing is sent."
    private static void aFreshGetSendsNothing(Check check) {
        TabledOrigin x = new TabledOrigin();
        x.put(0, 4, 5);
        Steps.fetch(x, 0);
        x.drop(0);
        int cached = x.get(0);
        check.due("cached", x.outcome(cached), Steps.CACHED);
        check.due("the stored content", x.content(cached), 4);
        check.due("nothing arrives", x.arrive(cached), Steps.NONE);
        check.due("nothing comes back", x.reply(cached), Steps.NONE);
        check.due("it can't be cancelled", x.cancel(cached), false);
        check.due("the stored request stays", x.stored(0, 2), 0);
    }

    private static void aPutIsNeverCached(Check check) {
        TabledOrigin x = new TabledOrigin();
        x.put(0, 4, 5);
        Steps.fetch(x, 0);
        int put = x.replace(0, 4, 5);
        check.due("pending", x.outcome(put), Steps.PENDING);
        check.due("no content", x.content(put), 0);
        check.due("sent", x.arrive(put), 200);
    }

    // "Else, when the client has taken the notice (below), a GET or PUT is REFUSED and nothing is sent."
    private static void freshComesBeforeTheNotice(Check check) {
        TabledOrigin x = new TabledOrigin();
        x.put(0, 4, 5);
        Steps.fetch(x, 0);
        x.goaway();
        x.notice();
        x.tick(4);
        check.due("fresh", x.outcome(x.get(0)), Steps.CACHED);
        x.tick(1);
        int stale = x.get(0);
        check.due("stale", x.outcome(stale), Steps.REFUSED);
        check.due("no content", x.content(stale), 0);
        check.due("the stored answer stays", x.stored(0, 1), 4);
    }

    private static void theNoticeRefusesGetAndPut(Check check) {
        TabledOrigin x = new TabledOrigin();
        x.put(0, 4, 5);
        Steps.fetch(x, 0);
        x.goaway();
        x.notice();
        int[] refused = {x.replace(0, 9, 9), x.replace(1, 9, 9), x.get(1)};
        for (int request : refused) {
            check.due("refused", x.outcome(request), Steps.REFUSED);
            check.due("nothing is sent", x.arrive(request), Steps.NONE);
            check.due("no content", x.content(request), 0);
        }
        check.due("nothing was written", x.drop(1), false);
    }

    private static void theLimitAloneRefusesNothing(Check check) {
        TabledOrigin x = new TabledOrigin();
        x.goaway();
        check.due("GET", x.outcome(x.get(0)), Steps.PENDING);
        check.due("PUT", x.outcome(x.replace(0, 1, 1)), Steps.PENDING);
        check.due("both were under way", x.arrive(0) + x.arrive(1), 0);
        check.due("both are refused by the notice", x.notice(), 2);
    }

    // "Else it is PENDING, its SENT time is the clock"
    private static void sentIsTheClock(Check check) {
        TabledOrigin x = new TabledOrigin();
        x.put(0, 4, 100);
        x.tick(1000);
        int request = x.get(0);
        x.tick(30);
        x.arrive(request);
        x.tick(20);
        Steps.takeInstructions(x);
        x.reply(request);
        x.tick(10);
        check.due("fresh for 100 from the making on", x.stored(0, 3), 40);
    }

    // "it bears the tag of the stored answer of its resource, if there is one"
    private static void bearsTheTagOfAStaleAnswer(Check check) {
        TabledOrigin x = new TabledOrigin();
        x.put(0, 4, 5);
        Steps.fetch(x, 0);
        x.tick(5);
        int get = x.get(0);
        int put = x.replace(0, 5, 5);
        check.due("GET with it", x.arrive(get), 304);
        x.put(0, 6, 5);
        check.due("PUT with it", x.arrive(put), 412);
    }

    private static void bearsTheTagOfAFreshAnswer(Check check) {
        TabledOrigin x = new TabledOrigin();
        x.put(0, 4, 5);
        Steps.fetch(x, 0);
        int put = x.replace(0, 5, 5);
        x.put(0, 6, 5);
        check.due("PUT with it", x.arrive(put), 412);
    }

    private static void bearsNoTagWhenNothingIsStored(Check check) {
        TabledOrigin x = new TabledOrigin();
        x.put(0, 4, 0);
        Steps.fetch(x, 0);
        Steps.write(x, 0, 5, 0);
        check.due("stored no more", x.stored(0, 0), Steps.NONE);
        check.due("a GET without a tag", x.arrive(x.get(0)), 200);
        int put = x.replace(0, 6, 0);
        x.put(0, 7, 0);
        check.due("a PUT without a tag", x.arrive(put), 200);
    }

    private static void bearsTheTagOfItsOwnResource(Check check) {
        TabledOrigin x = new TabledOrigin();
        x.put(0, 4, 0);
        x.put(1, 4, 0);
        Steps.fetch(x, 0);
        check.due("nothing stored for 1", x.arrive(x.get(1)), 200);
        int put = x.replace(1, 5, 5);
        x.put(1, 6, 6);
        check.due("so its PUT bears no tag", x.arrive(put), 200);
    }

    private static void theTagIsThatOfTheMaking(Check check) {
        TabledOrigin x = new TabledOrigin();
        x.put(0, 4, 0);
        int early = x.get(0);
        Steps.fetch(x, 0);
        check.due("made before the tag was stored", x.arrive(early), 200);
        int old = x.replace(0, 5, 0);
        x.put(0, 6, 0);
        Steps.fetch(x, 0);
        check.due("the newer tag is stored", x.stored(0, 0), 2);
        check.due("the PUT bears the older one", x.arrive(old), 412);
    }

    // "a GET keeps the stored content with it"
    private static void theContentIsThatOfTheMaking(Check check) {
        TabledOrigin x = new TabledOrigin();
        x.put(0, 4, 0);
        Steps.fetch(x, 0);
        int old = x.get(0);
        check.due("not shown while pending", x.content(old), 0);
        check.due("its tag", x.arrive(old), 304);
        Steps.write(x, 0, 5, 0);
        Steps.fetch(x, 0);
        check.due("another content is stored", x.stored(0, 1), 5);
        Steps.takeInstructions(x);
        check.due("still good", x.reply(old), Steps.STILL_GOOD);
        check.due("the content that it kept", x.content(old), 4);
    }
}
