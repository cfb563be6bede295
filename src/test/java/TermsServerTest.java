/** The edges in "Terms" of the server's resources, their tags and the clock; each sentence stands above its test. */
public final class TermsServerTest {
    private static final int[] CONTENTS = {Integer.MIN_VALUE, -1, 0, 1, Integer.MAX_VALUE};

    public static void main(String[] args) {
        Check check = new Check();
        resourcesAreZeroToFive(check);
        allAreAbsentAtFirst(check);
        contentIsAnyIntInAPut(check);
        contentIsAnyIntInAReplace(check);
        contentIsAnyIntWhenItIsKept(check);
        lifetimesAreZeroToAThousand(check);
        theFirstTagIsOne(check);
        aNewTagIsOneMoreThanTheNewestOfAny(check);
        onlyAWriteTakesATag(check);
        theClockIsZeroAtFirst(check);
        check.finish();
    }

    // "THE SERVER has RESOURCES 0 .. 5"
    private static void resourcesAreZeroToFive(Check check) {
        for (int resource = 0; resource <= 5; resource++) {
            TabledOrigin x = new TabledOrigin();
            check.due("put to " + resource, x.put(resource, 7, 7), 1);
            check.due("get of " + resource, x.get(resource), 0);
            check.due("replace of " + resource, x.replace(resource, 8, 8), 1);
            check.due("arrive", x.arrive(0), 200);
            Steps.takeInstructions(x);
            x.reply(0);
            check.due("stored for " + resource, x.stored(resource, 1), 7);
            check.due("drop of " + resource, x.drop(resource), true);
            for (int other = 0; other <= 5; other++) {
                check.due("only one is stored", x.stored(other, 1), other == resource ? 7 : Steps.NONE);
                check.due("no other is there", x.drop(other), false);
            }
        }
    }

    // "at first all absent"
    private static void allAreAbsentAtFirst(Check check) {
        TabledOrigin x = new TabledOrigin();
        for (int resource = 0; resource <= 5; resource++) {
            check.due("drop of " + resource, x.drop(resource), false);
            check.due("GET of " + resource, x.arrive(x.get(resource)), 404);
        }
    }

    // "A resource that is there has a CONTENT (any int)"
    private static void contentIsAnyIntInAPut(Check check) {
        for (int content : CONTENTS) {
            TabledOrigin x = new TabledOrigin();
            check.due("put of content " + content, x.put(3, content, 9), 1);
            int request = Steps.fetch(x, 3);
            check.due("found " + content, x.content(request), content);
            check.due("stored " + content, x.stored(3, 1), content);
            check.due("the entry for " + content, x.entry(0, 1), content);
        }
    }

    private static void contentIsAnyIntInAReplace(Check check) {
        for (int content : CONTENTS) {
            TabledOrigin x = new TabledOrigin();
            check.due("written", x.outcome(Steps.write(x, 3, content, 9)), Steps.WRITTEN);
            check.due("found " + content, x.content(Steps.fetch(x, 3)), content);
        }
    }

    private static void contentIsAnyIntWhenItIsKept(Check check) {
        for (int content : CONTENTS) {
            TabledOrigin x = new TabledOrigin();
            x.put(3, content, 9);
            Steps.fetch(x, 3);
            check.due("cached " + content, x.content(x.get(3)), content);
            x.tick(9);
            int again = Steps.fetch(x, 3);
            check.due("still good", x.outcome(again), Steps.STILL_GOOD);
            check.due("still good " + content, x.content(again), content);
            check.due("still stored " + content, x.stored(3, 1), content);
        }
    }

    // "a LIFETIME 0 .. 1000"
    private static void lifetimesAreZeroToAThousand(Check check) {
        int[] lifetimes = {0, 1, 999, 1000};
        for (int lifetime : lifetimes) {
            TabledOrigin x = new TabledOrigin();
            check.due("put with " + lifetime, x.put(0, 5, lifetime), 1);
            check.due("replace with " + lifetime, x.replace(1, 5, lifetime), 0);
            Steps.finish(x, 0);
            Steps.fetch(x, 0);
            Steps.fetch(x, 1);
            check.due("fresh for " + lifetime, x.stored(0, 3), lifetime);
            check.due("fresh for " + lifetime, x.stored(1, 3), lifetime);
        }
    }

    // "the first is 1"
    private static void theFirstTagIsOne(Check check) {
        check.due("by put", new TabledOrigin().put(5, 0, 0), 1);
        TabledOrigin x = new TabledOrigin();
        x.arrive(x.replace(5, 0, 0));
        check.due("by PUT", x.entry(0, 1), 1);
    }

    // "A NEW TAG is 1 more than the newest tag given to any resource before"
    private static void aNewTagIsOneMoreThanTheNewestOfAny(Check check) {
        TabledOrigin x = new TabledOrigin();
        check.due("another resource", x.put(0, 1, 1), 1);
        check.due("another resource", x.put(5, 1, 1), 2);
        check.due("the first one again", x.put(0, 1, 1), 3);
        x.drop(0);
        check.due("a drop gives no tag back", x.put(0, 1, 1), 4);
        x.drop(0);
        x.drop(5);
        check.due("nor when all are absent", x.put(1, 1, 1), 5);
        x.arrive(x.replace(2, 1, 1));
        check.due("a PUT takes the next one", x.entry(0, 1), 6);
        check.due("and put goes on from there", x.put(3, 1, 1), 7);
    }

    private static void onlyAWriteTakesATag(Check check) {
        TabledOrigin x = new TabledOrigin();
        x.put(0, 1, 0);
        x.put(6, 1, 0);
        x.put(0, 1, 1001);
        Steps.fetch(x, 0);
        int failing = x.replace(0, 2, 0);
        int thrown = x.replace(1, 2, 0);
        int cancelled = x.replace(2, 2, 0);
        check.due("refused calls took none", x.put(0, 3, 0), 2);
        check.due("failed", x.arrive(failing), 412);
        x.cancel(cancelled);
        x.goaway();
        check.due("thrown away", x.arrive(thrown), 0);
        check.due("those took none", x.put(0, 4, 0), 3);
    }

    // "The CLOCK is 0 at first."
    private static void theClockIsZeroAtFirst(Check check) {
        TabledOrigin x = new TabledOrigin();
        x.put(0, 1, 1);
        Steps.fetch(x, 0);
        check.due("fresh without a tick", x.stored(0, 3), 1);
        check.due("cached", x.outcome(x.get(0)), Steps.CACHED);
    }
}
