/** The edges in "Terms" of how the server answers a request; each sentence stands above its test. */
public final class TermsAnswerTest {
    public static void main(String[] args) {
        Check check = new Check();
        absentHasNoField(check);
        absentComesBeforeTheTag(check);
        itsTagHasTwoFields(check);
        noTagHasThreeFields(check);
        anotherTagHasThreeFields(check);
        aTagOfBeforeADropIsAnother(check);
        aPutWithATagFailsWhenAbsent(check);
        aPutWithAnotherTagFails(check);
        aPutWithItsTagWrites(check);
        aPutWithoutATagWritesWhenAbsent(check);
        aPutWithoutATagWritesOverAnother(check);
        aFieldIsNameAndValue(check);
        check.finish();
    }

    private static int fields(TabledOrigin x) {
        return x.count(Steps.LITERALS) + x.count(Steps.REFERENCES);
    }

    private static void field(Check check, TabledOrigin x, int k, int name, int value) {
        check.due("name of entry " + k, x.entry(k, 0), name);
        check.due("value of entry " + k, x.entry(k, 1), value);
    }

    // "GET: the resource is absent: status 404, no field."
    private static void absentHasNoField(Check check) {
        TabledOrigin x = new TabledOrigin();
        check.due("absent", x.arrive(x.get(0)), 404);
        check.due("no field", fields(x), 0);
        check.due("none outstanding", x.count(Steps.OUTSTANDING), 0);
        check.due("not blocked", x.reply(0), Steps.ABSENT);
        check.due("no ACK", x.feedback(), Steps.NONE);
    }

    private static void absentComesBeforeTheTag(Check check) {
        TabledOrigin x = new TabledOrigin();
        x.put(0, 4, 0);
        Steps.fetch(x, 0);
        x.drop(0);
        check.due("absent though it bears a tag", x.arrive(x.get(0)), 404);
        check.due("no field more", fields(x), 3);
    }

    // "The request bears its tag: 304, with the fields (0, tag), (1, lifetime)."
    private static void itsTagHasTwoFields(Check check) {
        TabledOrigin x = new TabledOrigin();
        x.put(0, 4, 10);
        Steps.fetch(x, 0);
        for (int i = 1; i <= 5; i++) {
            Steps.write(x, i, 0, 0);
        }
        x.tick(10);
        int before = fields(x);
        check.due("its tag", x.arrive(x.get(0)), 304);
        check.due("two fields", fields(x) - before, 2);
        field(check, x, 1, 0, 1);
        field(check, x, 0, 1, 10);
        check.due("both referred to", x.entry(0, 2) + x.entry(1, 2), 2);
    }

    // "Else 200, with the fields (0, tag), (1, lifetime), (2, content)."
    private static void noTagHasThreeFields(Check check) {
        TabledOrigin x = new TabledOrigin();
        x.put(0, 4, 10);
        check.due("no tag", x.arrive(x.get(0)), 200);
        check.due("three fields", fields(x), 3);
        field(check, x, 2, 0, 1);
        field(check, x, 1, 1, 10);
        field(check, x, 0, 2, 4);
    }

    private static void anotherTagHasThreeFields(Check check) {
        TabledOrigin x = new TabledOrigin();
        x.put(0, 4, 0);
        Steps.fetch(x, 0);
        x.put(0, 5, 20);
        check.due("another tag", x.arrive(x.get(0)), 200);
        check.due("three fields more", fields(x), 6);
        field(check, x, 2, 0, 2);
        field(check, x, 1, 1, 20);
        field(check, x, 0, 2, 5);
    }

    private static void aTagOfBeforeADropIsAnother(Check check) {
        TabledOrigin x = new TabledOrigin();
        x.put(0, 4, 0);
        Steps.fetch(x, 0);
        x.drop(0);
        x.put(0, 4, 0);
        check.due("GET", x.arrive(x.get(0)), 200);
        check.due("PUT", x.arrive(x.replace(0, 9, 0)), 412);
    }

    // "PUT: the request bears a tag, and the resource is absent or has another tag: 412, no field."
    private static void aPutWithATagFailsWhenAbsent(Check check) {
        TabledOrigin x = new TabledOrigin();
        x.put(0, 4, 0);
        Steps.fetch(x, 0);
        x.drop(0);
        int put = x.replace(0, 5, 0);
        check.due("absent", x.arrive(put), 412);
        check.due("no field more", fields(x), 3);
        check.due("absent still", x.drop(0), false);
        check.due("not blocked", x.reply(put), Steps.FAILED);
        check.due("no ACK", x.feedback(), Steps.NONE);
    }

    private static void aPutWithAnotherTagFails(Check check) {
        TabledOrigin x = new TabledOrigin();
        x.put(0, 4, 0);
        Steps.fetch(x, 0);
        x.put(0, 5, 0);
        check.due("another tag", x.arrive(x.replace(0, 6, 0)), 412);
        check.due("no field more", fields(x), 3);
        check.due("the content stays", x.content(Steps.fetch(x, 0)), 5);
        check.due("the tag stays", x.stored(0, 0), 2);
    }

    // "Else the resource gets the content and the lifetime of the request and a new tag: 200, with the field (0, tag)."
    private static void aPutWithItsTagWrites(Check check) {
        TabledOrigin x = new TabledOrigin();
        x.put(0, 4, 10);
        Steps.fetch(x, 0);
        check.due("its tag", x.arrive(x.replace(0, 5, 20)), 200);
        check.due("one field more", fields(x), 4);
        field(check, x, 0, 0, 2);
        x.tick(10);
        Steps.fetch(x, 0);
        check.due("content", x.stored(0, 1), 5);
        check.due("lifetime", x.stored(0, 3), 20);
        check.due("tag", x.stored(0, 0), 2);
    }

    private static void aPutWithoutATagWritesWhenAbsent(Check check) {
        TabledOrigin x = new TabledOrigin();
        check.due("absent", x.arrive(x.replace(0, 5, 20)), 200);
        check.due("one field", fields(x), 1);
        field(check, x, 0, 0, 1);
        check.due("it is there", x.drop(0), true);
    }

    private static void aPutWithoutATagWritesOverAnother(Check check) {
        TabledOrigin x = new TabledOrigin();
        x.put(0, 4, 10);
        check.due("there", x.arrive(x.replace(0, 5, 20)), 200);
        check.due("one field", fields(x), 1);
        field(check, x, 0, 0, 2);
        check.due("content", x.content(Steps.fetch(x, 0)), 5);
    }

    // "A FIELD is a pair (name, value)."
    private static void aFieldIsNameAndValue(Check check) {
        TabledOrigin x = new TabledOrigin();
        x.put(0, 1, 1);
        x.arrive(x.get(0));
        check.due("one value under three names: three entries", x.count(Steps.MADE), 3);
        x.put(1, 1, 1);
        x.arrive(x.get(1));
        check.due("another value under one name: one entry more", x.count(Steps.MADE), 4);
        field(check, x, 0, 0, 2);
    }
}
