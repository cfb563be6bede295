public final class Promise02PutTest {
    public static void main(String[] args) {
        Check check = new Check();
        tagsGrowOverAllResources(check);
        whatIsPutIsServed(check);
        edges(check);
        wrongInputs(check);
        check.finish();
    }

    private static void tagsGrowOverAllResources(Check check) {
        TabledOrigin x = new TabledOrigin();
        for (int resource = 0; resource < 6; resource++) {
            check.due("put", x.put(resource, 9, 9), resource + 1);
        }
        check.due("the same again", x.put(2, 9, 9), 7);
        x.drop(2);
        check.due("after a drop", x.put(2, 9, 9), 8);
        Steps.write(x, 3, 1, 1);
        check.due("after a PUT, which took tag 9", x.put(0, 1, 1), 10);
    }

    private static void whatIsPutIsServed(Check check) {
        TabledOrigin x = new TabledOrigin();
        x.put(4, 50, 60);
        x.put(4, 51, 61);
        x.put(5, 52, 62);
        int request = Steps.fetch(x, 4);
        check.due("content", x.content(request), 51);
        check.due("tag", x.stored(4, 0), 2);
        check.due("lifetime", x.stored(4, 3), 61);
    }

    private static void edges(Check check) {
        TabledOrigin x = new TabledOrigin();
        check.due("lifetime 0", x.put(0, Integer.MIN_VALUE, 0), 1);
        check.due("lifetime 1000", x.put(5, Integer.MAX_VALUE, 1000), 2);
        check.due("content -1", x.put(1, -1, 1), 3);
        check.due("least content", x.content(Steps.fetch(x, 0)), Integer.MIN_VALUE);
        check.due("greatest content", x.content(Steps.fetch(x, 5)), Integer.MAX_VALUE);
        check.due("content -1", x.content(Steps.fetch(x, 1)), -1);
        check.due("lifetime", x.stored(5, 3), 1000);
    }

    private static void wrongInputs(Check check) {
        TabledOrigin x = new TabledOrigin();
        x.put(0, 5, 5);
        for (int resource : Steps.WRONG_RESOURCES) {
            check.due("put to resource " + resource, x.put(resource, 6, 6), Steps.NONE);
        }
        for (int lifetime : Steps.WRONG_LIFETIMES) {
            check.due("put with lifetime " + lifetime, x.put(0, 6, lifetime), Steps.NONE);
        }
        check.due("nothing changed", x.content(Steps.fetch(x, 0)), 5);
        check.due("no tag was taken", x.put(1, 6, 6), 2);
    }
}
