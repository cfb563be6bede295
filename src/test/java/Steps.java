/** Runs of calls that many tests begin with, and the numbers of the document by name. */
final class Steps {
    static final int NONE = TabledOrigin.NONE;

    static final int PENDING = 0;
    static final int FOUND = 1;
    static final int STILL_GOOD = 2;
    static final int ABSENT = 3;
    static final int WRITTEN = 4;
    static final int FAILED = 5;
    static final int CANCELLED = 6;
    static final int REFUSED = 7;
    static final int CACHED = 8;

    static final int ACK = 0;
    static final int CANCEL = 1;
    static final int MORE = 2;

    static final int MADE = 0;
    static final int KNOWN = 1;
    static final int COME = 2;
    static final int TOLD = 3;
    static final int LITERALS = 4;
    static final int REFERENCES = 5;
    static final int OUTSTANDING = 6;
    static final int AT_RISK = 7;
    static final int BLOCKED = 8;

    /** The outcomes of requests 0 .. 8 of allOutcomes(). */
    static final int[] OUTCOMES = {
        ABSENT, FOUND, CACHED, STILL_GOOD, FAILED, WRITTEN, CANCELLED, PENDING, REFUSED
    };

    static final int[] WRONG_RESOURCES = {-1, 6, 7, Integer.MIN_VALUE, Integer.MAX_VALUE};
    static final int[] WRONG_LIFETIMES = {-1, 1001, Integer.MIN_VALUE, Integer.MAX_VALUE};

    private Steps() {
    }

    /** A GET that goes all the way: answered, read, and acknowledged at the server. */
    static int fetch(TabledOrigin x, int resource) {
        return finish(x, x.get(resource));
    }

    /** A PUT that goes all the way. */
    static int write(TabledOrigin x, int resource, int content, int lifetime) {
        return finish(x, x.replace(resource, content, lifetime));
    }

    static int finish(TabledOrigin x, int request) {
        x.arrive(request);
        takeInstructions(x);
        x.reply(request);
        takeFeedback(x);
        return request;
    }

    static void takeInstructions(TabledOrigin x) {
        for (int i = 0; i < 1000 && x.insert() != NONE; i++) {
        }
    }

    static void takeFeedback(TabledOrigin x) {
        for (int i = 0; i < 1000 && x.feedback() != NONE; i++) {
        }
    }

    /** Five live entries, all known and none referred to: (0,1) (1,10) (2,100) (0,2) (2,200), oldest first. */
    static TabledOrigin fullTable() {
        TabledOrigin x = new TabledOrigin();
        x.put(0, 100, 10);
        x.put(1, 200, 10);
        fetch(x, 0);
        fetch(x, 1);
        return x;
    }

    /** Two answers (to requests 0 and 1) at risk: entries (0,1) (1,10) (2,100), (0,2) (2,200), none known. */
    static TabledOrigin twoAtRisk() {
        TabledOrigin x = new TabledOrigin();
        x.put(0, 100, 10);
        x.put(1, 200, 10);
        x.arrive(x.get(0));
        x.arrive(x.get(1));
        return x;
    }

    /**
     * Each outcome once, as OUTCOMES says. The notice is taken; all instructions and all feedback
     * have come; the answer to the PENDING request 7 (404) is under way to the client.
     */
    static TabledOrigin allOutcomes() {
        TabledOrigin x = new TabledOrigin();
        fetch(x, 0);
        x.put(0, 11, 5);
        fetch(x, 0);
        x.get(0);
        x.tick(5);
        fetch(x, 0);
        x.put(0, 22, 5);
        write(x, 0, 33, 5);
        write(x, 1, 44, 5);
        x.cancel(x.get(2));
        takeFeedback(x);
        x.arrive(x.get(2));
        x.get(3);
        x.goaway();
        x.notice();
        return x;
    }
}
