public final class TabledOrigin {
    public static final int NONE = -1;

    private static final int RESOURCES = 6;
    private static final int MOST_REQUESTS = 60;
    private static final int LONGEST_LIFETIME = 1000;
    private static final int LONGEST_TICK = 1000;

    private static final int MOST_LIVE = 5;
    private static final int MOST_AT_RISK = 2;
    private static final int MOST_FIELDS = 3;

    // A request puts ACK or CANCEL once at most, and each MORE tells of at least one new entry.
    private static final int MOST_FEEDBACK = MOST_REQUESTS + MOST_REQUESTS * MOST_FIELDS;

    private static final int PENDING = 0;
    private static final int FOUND = 1;
    private static final int STILL_GOOD = 2;
    private static final int ABSENT = 3;
    private static final int WRITTEN = 4;
    private static final int FAILED = 5;
    private static final int CANCELLED = 6;
    private static final int REFUSED = 7;
    private static final int CACHED = 8;

    private static final int THROWN_AWAY = 0;
    private static final int STATUS_OK = 200;
    private static final int STATUS_SAME = 304;
    private static final int STATUS_ABSENT = 404;
    private static final int STATUS_FAILED = 412;

    private static final int TAG_FIELD = 0;
    private static final int LIFETIME_FIELD = 1;
    private static final int CONTENT_FIELD = 2;

    private static final int ACK = 0;
    private static final int CANCEL = 1;
    private static final int MORE = 2;

    // The first tag given is 1, so 0 is never the tag of a resource.
    private static final int NO_TAG = 0;

    private final Server server;
    private final Client client;
    private final FeedbackRoad feedbackRoad;
    private final Request[] requests;
    private int requestCount;
    private int clock;

    public TabledOrigin() {
        server = new Server();
        client = new Client();
        feedbackRoad = new FeedbackRoad();
        requests = new Request[MOST_REQUESTS];
        requestCount = 0;
        clock = 0;
    }

    public int put(int resource, int content, int lifetime) {
        Resource target = server.resourceAt(resource);
        if (target == null || !isLifetime(lifetime)) {
            return NONE;
        }
        server.write(target, content, lifetime);
        return target.tag;
    }

    public boolean drop(int resource) {
        Resource target = server.resourceAt(resource);
        if (target == null || !target.there) {
            return false;
        }
        target.there = false;
        return true;
    }

    public int get(int resource) {
        return makeRequest(resource, false, 0, 0);
    }

    public int replace(int resource, int content, int lifetime) {
        if (!isLifetime(lifetime)) {
            return NONE;
        }
        return makeRequest(resource, true, content, lifetime);
    }

    public int arrive(int request) {
        Request asked = requestAt(request);
        if (asked == null || !asked.underWay) {
            return NONE;
        }
        asked.underWay = false;
        return server.takeRequest(asked);
    }

    public int reply(int request) {
        Request asked = requestAt(request);
        if (asked == null || asked.answer == null || !asked.answer.underWay) {
            return NONE;
        }
        asked.answer.underWay = false;
        if (client.mustWaitFor(asked.answer)) {
            asked.answer.blocked = true;
            return PENDING;
        }
        client.read(asked, asked.answer, feedbackRoad);
        return asked.outcome;
    }

    public int insert() {
        if (client.instructionsCome >= server.table.made) {
            return NONE;
        }
        client.instructionsCome++;
        return readUnblocked();
    }

    public int feedback() {
        int kind = feedbackRoad.nextKind();
        if (kind == NONE) {
            return NONE;
        }
        int number = feedbackRoad.nextNumber();
        feedbackRoad.moveOn();
        if (kind == MORE) {
            server.table.known += number;
        } else {
            endOutstanding(number, kind == ACK);
        }
        return kind;
    }

    public boolean report() {
        int untold = client.instructionsCome - client.told;
        if (untold <= 0) {
            return false;
        }
        feedbackRoad.append(MORE, untold);
        client.told = client.instructionsCome;
        return true;
    }

    public int goaway() {
        server.announceLimit();
        return server.limit;
    }

    public int notice() {
        if (!server.limitAnnounced || client.noticeTaken) {
            return NONE;
        }
        client.noticeTaken = true;
        return refuseFrom(server.limit);
    }

    public boolean cancel(int request) {
        Request given = requestAt(request);
        if (given == null || given.outcome != PENDING) {
            return false;
        }
        given.settle(CANCELLED, 0);
        given.underWay = false;
        if (given.answer != null) {
            given.answer.underWay = false;
            given.answer.blocked = false;
        }
        feedbackRoad.append(CANCEL, given.number);
        return true;
    }

    public boolean tick(int n) {
        if (n < 0 || n > LONGEST_TICK) {
            return false;
        }
        clock += n;
        return true;
    }

    public int outcome(int request) {
        Request asked = requestAt(request);
        return asked == null ? NONE : asked.outcome;
    }

    public int content(int request) {
        Request asked = requestAt(request);
        return asked == null ? NONE : asked.outcomeContent;
    }

    public int stored(int resource, int which) {
        StoredAnswer kept = client.storedAt(resource);
        if (kept == null || !kept.there) {
            return NONE;
        }
        switch (which) {
            case 0:
                return kept.tag;
            case 1:
                return kept.content;
            case 2:
                return kept.request;
            case 3:
                return kept.freshFor(clock);
            default:
                return NONE;
        }
    }

    public int entry(int k, int which) {
        Table table = server.table;
        if (k < 0 || k >= table.liveCount()) {
            return NONE;
        }
        int number = table.made - 1 - k;
        switch (which) {
            case 0:
                return table.nameOf(number);
            case 1:
                return table.valueOf(number);
            case 2:
                return table.referencesTo(number);
            default:
                return NONE;
        }
    }

    public int count(int which) {
        Table table = server.table;
        switch (which) {
            case 0:
                return table.made;
            case 1:
                return table.known;
            case 2:
                return client.instructionsCome;
            case 3:
                return client.told;
            case 4:
                return table.literals;
            case 5:
                return table.references;
            case 6:
                return table.outstandingNeeding(0);
            case 7:
                return table.atRisk();
            case 8:
                return blockedAnswers();
            default:
                return NONE;
        }
    }

    private static boolean isLifetime(int lifetime) {
        return lifetime >= 0 && lifetime <= LONGEST_LIFETIME;
    }

    private Request requestAt(int number) {
        if (number < 0 || number >= requestCount || number >= requests.length) {
            return null;
        }
        return requests[number];
    }

    private int makeRequest(int resource, boolean isPut, int content, int lifetime) {
        StoredAnswer kept = client.storedAt(resource);
        if (kept == null || requestCount >= requests.length) {
            return NONE;
        }
        Request made = new Request(requestCount, resource, isPut, content, lifetime);
        client.begin(made, kept, clock);
        requests[requestCount] = made;
        requestCount++;
        return made.number;
    }

    private int readUnblocked() {
        int readCount = 0;
        for (int i = 0; i < requestCount; i++) {
            Request asked = requestAt(i);
            if (isBlocked(asked) && !client.mustWaitFor(asked.answer)) {
                asked.answer.blocked = false;
                client.read(asked, asked.answer, feedbackRoad);
                readCount++;
            }
        }
        return readCount;
    }

    private static boolean isBlocked(Request asked) {
        return asked != null && asked.answer != null && asked.answer.blocked;
    }

    private int blockedAnswers() {
        int blocked = 0;
        for (int i = 0; i < requestCount; i++) {
            if (isBlocked(requestAt(i))) {
                blocked++;
            }
        }
        return blocked;
    }

    private void endOutstanding(int number, boolean acknowledged) {
        Request asked = requestAt(number);
        if (asked == null || asked.answer == null) {
            return;
        }
        asked.answer.outstanding = false;
        if (acknowledged) {
            server.table.learn(asked.answer.need);
        }
    }

    private int refuseFrom(int limit) {
        int refused = 0;
        for (int i = limit; i < requestCount; i++) {
            Request asked = requestAt(i);
            if (asked != null && asked.outcome == PENDING) {
                asked.settle(REFUSED, 0);
                asked.underWay = false;
                refused++;
            }
        }
        return refused;
    }

    /** What the server has of one resource. */
    private static final class Resource {
        boolean there;
        int tag;
        int content;
        int lifetime;
    }

    /** What the client keeps of one resource. */
    private static final class StoredAnswer {
        boolean there;
        int tag;
        int content;
        int lifetime;
        int since;
        int request;

        boolean isFresh(int clock) {
            return there && clock - since < lifetime;
        }

        int freshFor(int clock) {
            return isFresh(clock) ? lifetime - (clock - since) : 0;
        }

        void forgetIfOlderThan(int number) {
            if (request < number) {
                there = false;
            }
        }
    }

    /** A GET or PUT of the client, from its making to its outcome. */
    private static final class Request {
        final int number;
        final int resource;
        final boolean isPut;
        final int content;
        final int lifetime;
        int tag;
        int sent;
        int keptContent;
        boolean underWay;
        int outcome;
        int outcomeContent;
        Answer answer;

        Request(int number, int resource, boolean isPut, int content, int lifetime) {
            this.number = number;
            this.resource = resource;
            this.isPut = isPut;
            this.content = content;
            this.lifetime = lifetime;
            tag = NO_TAG;
            outcome = PENDING;
        }

        void settle(int newOutcome, int newContent) {
            outcome = newOutcome;
            outcomeContent = newContent;
        }
    }

    /** What the server answered to one request, and which entries stand for its fields. */
    private static final class Answer {
        final int status;
        final int[] referredTo;
        int referenceCount;
        int need;
        int tag;
        int lifetime;
        int content;
        boolean underWay;
        boolean blocked;
        boolean outstanding;

        Answer(int status) {
            this.status = status;
            referredTo = new int[MOST_FIELDS];
            underWay = true;
        }

        void addReference(int number) {
            if (referenceCount >= referredTo.length) {
                return;
            }
            referredTo[referenceCount] = number;
            referenceCount++;
            need = Math.max(need, number + 1);
        }

        boolean refersTo(int number) {
            for (int i = 0; i < referenceCount && i < referredTo.length; i++) {
                if (referredTo[i] == number) {
                    return true;
                }
            }
            return false;
        }
    }

    /** ACK, CANCEL and MORE on their way from the client to the server, in order. */
    private static final class FeedbackRoad {
        final int[] kinds;
        final int[] numbers;
        int length;
        int taken;

        FeedbackRoad() {
            kinds = new int[MOST_FEEDBACK];
            numbers = new int[MOST_FEEDBACK];
        }

        void append(int kind, int number) {
            if (length >= kinds.length || length >= numbers.length) {
                return;
            }
            kinds[length] = kind;
            numbers[length] = number;
            length++;
        }

        int nextKind() {
            return taken < length && taken < kinds.length ? kinds[taken] : NONE;
        }

        int nextNumber() {
            return taken < length && taken < numbers.length ? numbers[taken] : NONE;
        }

        void moveOn() {
            if (taken < length) {
                taken++;
            }
        }
    }

    /** The entries that the server made, and the answers that lean on them. */
    private static final class Table {
        // Only the newest entries are live, so entry n may take the place of entry n - MOST_LIVE.
        final int[] names;
        final int[] values;
        final Answer[] answers;
        int answerCount;
        int made;
        int known;
        int literals;
        int references;

        Table() {
            names = new int[MOST_LIVE];
            values = new int[MOST_LIVE];
            answers = new Answer[MOST_REQUESTS];
        }

        int liveCount() {
            return Math.min(made, MOST_LIVE);
        }

        int nameOf(int number) {
            return names[Math.floorMod(number, MOST_LIVE)];
        }

        int valueOf(int number) {
            return values[Math.floorMod(number, MOST_LIVE)];
        }

        void putDown(Answer answer, int name, int value) {
            boolean riskAllowed = answer.need > known || atRisk() < MOST_AT_RISK;
            int same = findLive(name, value);
            if (same != NONE && (same < known || riskAllowed)) {
                refer(answer, same);
            } else if (same == NONE && riskAllowed && hasRoomFor(answer)) {
                refer(answer, makeEntry(name, value));
            } else {
                literals++;
            }
        }

        // Only now, since risk and room leave out the answer whose fields are being put down.
        void keepIfReferring(Answer answer) {
            if (answer.referenceCount == 0 || answerCount >= answers.length) {
                return;
            }
            answer.outstanding = true;
            answers[answerCount] = answer;
            answerCount++;
        }

        void learn(int need) {
            known = Math.max(known, need);
        }

        int atRisk() {
            return outstandingNeeding(known + 1);
        }

        int outstandingNeeding(int least) {
            int found = 0;
            for (int i = 0; i < answerCount && i < answers.length; i++) {
                Answer answer = answers[i];
                if (answer != null && answer.outstanding && answer.need >= least) {
                    found++;
                }
            }
            return found;
        }

        int referencesTo(int number) {
            int found = 0;
            for (int i = 0; i < answerCount && i < answers.length; i++) {
                Answer answer = answers[i];
                if (answer != null && answer.outstanding && answer.refersTo(number)) {
                    found++;
                }
            }
            return found;
        }

        private int findLive(int name, int value) {
            int oldest = made - liveCount();
            for (int number = made - 1; number >= oldest; number--) {
                if (nameOf(number) == name && valueOf(number) == value) {
                    return number;
                }
            }
            return NONE;
        }

        private boolean hasRoomFor(Answer answer) {
            if (liveCount() < MOST_LIVE) {
                return true;
            }
            int oldest = made - MOST_LIVE;
            return oldest < known && referencesTo(oldest) == 0 && !answer.refersTo(oldest);
        }

        private int makeEntry(int name, int value) {
            int number = made;
            names[Math.floorMod(number, MOST_LIVE)] = name;
            values[Math.floorMod(number, MOST_LIVE)] = value;
            made++;
            return number;
        }

        private void refer(Answer answer, int number) {
            answer.addReference(number);
            references++;
        }
    }

    /** The resources, the table, and the limit that the server may announce. */
    private static final class Server {
        final Resource[] resources;
        final Table table;
        int newestTag;
        int answeredEnd;
        boolean limitAnnounced;
        int limit;

        Server() {
            resources = new Resource[RESOURCES];
            for (int i = 0; i < resources.length; i++) {
                resources[i] = new Resource();
            }
            table = new Table();
        }

        Resource resourceAt(int number) {
            return number >= 0 && number < resources.length ? resources[number] : null;
        }

        void write(Resource target, int content, int lifetime) {
            newestTag++;
            target.there = true;
            target.tag = newestTag;
            target.content = content;
            target.lifetime = lifetime;
        }

        int takeRequest(Request asked) {
            Resource target = resourceAt(asked.resource);
            if (target == null || (limitAnnounced && asked.number >= limit)) {
                return THROWN_AWAY;
            }
            answeredEnd = Math.max(answeredEnd, asked.number + 1);
            Answer answer = asked.isPut ? answerPut(asked, target) : answerGet(asked, target);
            table.keepIfReferring(answer);
            asked.answer = answer;
            return answer.status;
        }

        void announceLimit() {
            if (!limitAnnounced) {
                limitAnnounced = true;
                limit = answeredEnd;
            }
        }

        private Answer answerGet(Request asked, Resource target) {
            if (!target.there) {
                return new Answer(STATUS_ABSENT);
            }
            boolean same = asked.tag == target.tag;
            Answer answer = new Answer(same ? STATUS_SAME : STATUS_OK);
            answer.tag = target.tag;
            answer.lifetime = target.lifetime;
            table.putDown(answer, TAG_FIELD, target.tag);
            table.putDown(answer, LIFETIME_FIELD, target.lifetime);
            if (!same) {
                answer.content = target.content;
                table.putDown(answer, CONTENT_FIELD, target.content);
            }
            return answer;
        }

        private Answer answerPut(Request asked, Resource target) {
            boolean unchanged = target.there && target.tag == asked.tag;
            if (asked.tag != NO_TAG && !unchanged) {
                return new Answer(STATUS_FAILED);
            }
            write(target, asked.content, asked.lifetime);
            Answer answer = new Answer(STATUS_OK);
            table.putDown(answer, TAG_FIELD, target.tag);
            return answer;
        }
    }

    /** The stored answers, and what the client has heard and told of the table. */
    private static final class Client {
        final StoredAnswer[] storedAnswers;
        int instructionsCome;
        int told;
        boolean noticeTaken;

        Client() {
            storedAnswers = new StoredAnswer[RESOURCES];
            for (int i = 0; i < storedAnswers.length; i++) {
                storedAnswers[i] = new StoredAnswer();
            }
        }

        StoredAnswer storedAt(int resource) {
            return resource >= 0 && resource < storedAnswers.length ? storedAnswers[resource] : null;
        }

        void begin(Request made, StoredAnswer kept, int clock) {
            if (!made.isPut && kept.isFresh(clock)) {
                made.settle(CACHED, kept.content);
                return;
            }
            if (noticeTaken) {
                made.settle(REFUSED, 0);
                return;
            }
            made.sent = clock;
            made.underWay = true;
            if (kept.there) {
                made.tag = kept.tag;
                made.keptContent = kept.content;
            }
        }

        boolean mustWaitFor(Answer answer) {
            return answer.need > instructionsCome;
        }

        void read(Request asked, Answer answer, FeedbackRoad feedbackRoad) {
            StoredAnswer kept = storedAt(asked.resource);
            if (kept == null) {
                return;
            }
            switch (answer.status) {
                case STATUS_OK:
                    if (asked.isPut) {
                        asked.settle(WRITTEN, 0);
                        kept.forgetIfOlderThan(asked.number);
                    } else {
                        asked.settle(FOUND, answer.content);
                        store(kept, asked, answer);
                    }
                    break;
                case STATUS_SAME:
                    asked.settle(STILL_GOOD, asked.keptContent);
                    renew(kept, asked, answer);
                    break;
                case STATUS_ABSENT:
                    asked.settle(ABSENT, 0);
                    kept.forgetIfOlderThan(asked.number);
                    break;
                default:
                    asked.settle(FAILED, 0);
                    break;
            }
            acknowledge(asked, answer, feedbackRoad);
        }

        private void store(StoredAnswer kept, Request asked, Answer answer) {
            if (kept.there && kept.request >= asked.number) {
                return;
            }
            kept.there = true;
            kept.tag = answer.tag;
            kept.content = answer.content;
            kept.lifetime = answer.lifetime;
            kept.since = asked.sent;
            kept.request = asked.number;
        }

        private void renew(StoredAnswer kept, Request asked, Answer answer) {
            if (!kept.there || kept.tag != answer.tag || kept.request >= asked.number) {
                return;
            }
            kept.lifetime = answer.lifetime;
            kept.since = asked.sent;
            kept.request = asked.number;
        }

        private void acknowledge(Request asked, Answer answer, FeedbackRoad feedbackRoad) {
            if (answer.need == 0) {
                return;
            }
            feedbackRoad.append(ACK, asked.number);
            told = Math.max(told, answer.need);
        }
    }
}
