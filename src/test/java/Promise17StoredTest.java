public final class Promise17StoredTest {
    public static void main(String[] args) {
        Check check = new Check();
        TabledOrigin x = new TabledOrigin();
        x.put(1, 70, 10);
        x.put(2, 80, 20);
        x.get(0);
        x.tick(2);
        int request = Steps.fetch(x, 2);
        x.tick(5);
        check.due("tag", x.stored(2, 0), 2);
        check.due("content", x.stored(2, 1), 80);
        check.due("request", x.stored(2, 2), request);
        check.due("fresh for", x.stored(2, 3), 15);
        x.tick(14);
        check.due("fresh for 1", x.stored(2, 3), 1);
        x.tick(1);
        check.due("fresh no more", x.stored(2, 3), 0);
        x.tick(1);
        check.due("never less than 0", x.stored(2, 3), 0);
        check.due("stale, but stored", x.stored(2, 1), 80);
        check.due("nothing stored", x.stored(1, 0), Steps.NONE);
        int[] wrong = {-1, 4, Integer.MIN_VALUE, Integer.MAX_VALUE};
        for (int which : wrong) {
            check.due("which " + which, x.stored(2, which), Steps.NONE);
        }
        for (int resource : Steps.WRONG_RESOURCES) {
            check.due("resource " + resource, x.stored(resource, 0), Steps.NONE);
        }
        x.drop(2);
        check.due("the server's drop is not seen", x.stored(2, 0), 2);
        Steps.fetch(x, 2);
        for (int which = 0; which <= 3; which++) {
            check.due("stored no more " + which, x.stored(2, which), Steps.NONE);
        }
        eachResourceHasItsOwn(check);
        check.finish();
    }

    private static void eachResourceHasItsOwn(Check check) {
        TabledOrigin x = new TabledOrigin();
        for (int resource = 0; resource < 6; resource++) {
            x.put(resource, 10 * resource, resource);
            check.due("nothing stored yet", x.stored(resource, 0), Steps.NONE);
            check.due("request", Steps.fetch(x, resource), resource);
        }
        for (int resource = 0; resource < 6; resource++) {
            check.due("tag", x.stored(resource, 0), resource + 1);
            check.due("content", x.stored(resource, 1), 10 * resource);
            check.due("request", x.stored(resource, 2), resource);
            check.due("fresh for", x.stored(resource, 3), resource);
            check.due("which -1", x.stored(resource, -1), Steps.NONE);
            check.due("which 4", x.stored(resource, 4), Steps.NONE);
        }
        for (int which = -1; which <= 4; which++) {
            check.due("resource -1", x.stored(-1, which), Steps.NONE);
            check.due("resource 6", x.stored(6, which), Steps.NONE);
        }
    }
}
