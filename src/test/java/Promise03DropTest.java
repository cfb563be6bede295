public final class Promise03DropTest {
    public static void main(String[] args) {
        Check check = new Check();
        TabledOrigin x = new TabledOrigin();
        check.due("absent at first", x.drop(0), false);
        x.put(0, 1, 0);
        x.put(5, 2, 0);
        check.due("drop", x.drop(0), true);
        check.due("again", x.drop(0), false);
        check.due("GET of it", x.arrive(x.get(0)), 404);
        check.due("the other stays", x.arrive(x.get(5)), 200);
        check.due("drop of the last", x.drop(5), true);
        x.put(0, 1, 0);
        check.due("there again", x.arrive(x.get(0)), 200);
        check.due("drop again", x.drop(0), true);
        for (int resource : Steps.WRONG_RESOURCES) {
            check.due("drop of " + resource, x.drop(resource), false);
        }
        aWrittenOneCanBeDropped(check);
        aDropChangesTheServerAlone(check);
        aTagDoesNotOutliveItsResource(check);
        check.finish();
    }

    private static void aWrittenOneCanBeDropped(Check check) {
        TabledOrigin x = new TabledOrigin();
        int put = x.replace(3, 1, 1);
        check.due("not yet written", x.drop(3), false);
        x.arrive(put);
        check.due("written", x.drop(3), true);
    }

    private static void aDropChangesTheServerAlone(Check check) {
        TabledOrigin x = new TabledOrigin();
        x.put(0, 1, 9);
        Steps.fetch(x, 0);
        check.due("drop", x.drop(0), true);
        check.due("stored still", x.stored(0, 1), 1);
        check.due("cached still", x.outcome(x.get(0)), Steps.CACHED);
        check.due("entries are live still", x.entry(2, 1), 1);
    }

    private static void aTagDoesNotOutliveItsResource(Check check) {
        TabledOrigin x = new TabledOrigin();
        x.put(0, 1, 0);
        Steps.fetch(x, 0);
        int get = x.get(0);
        int put = x.replace(0, 2, 2);
        x.drop(0);
        check.due("GET with the tag of the dropped one", x.arrive(get), 404);
        check.due("PUT with the tag of the dropped one", x.arrive(put), 412);
        check.due("still absent", x.drop(0), false);
    }
}
