/** One call with its arguments, so that it can be made on several objects. A boolean answer counts 1 or 0. */
record Call(String name, int a, int b, int c) {
    int on(TabledOrigin x) {
        switch (name) {
            case "put":
                return x.put(a, b, c);
            case "drop":
                return x.drop(a) ? 1 : 0;
            case "get":
                return x.get(a);
            case "replace":
                return x.replace(a, b, c);
            case "arrive":
                return x.arrive(a);
            case "reply":
                return x.reply(a);
            case "insert":
                return x.insert();
            case "feedback":
                return x.feedback();
            case "report":
                return x.report() ? 1 : 0;
            case "goaway":
                return x.goaway();
            case "notice":
                return x.notice();
            case "cancel":
                return x.cancel(a) ? 1 : 0;
            case "tick":
                return x.tick(a) ? 1 : 0;
            case "outcome":
                return x.outcome(a);
            case "content":
                return x.content(a);
            case "stored":
                return x.stored(a, b);
            case "entry":
                return x.entry(a, b);
            default:
                return x.count(a);
        }
    }

    int on(Model x) {
        switch (name) {
            case "put":
                return x.put(a, b, c);
            case "drop":
                return x.drop(a) ? 1 : 0;
            case "get":
                return x.get(a);
            case "replace":
                return x.replace(a, b, c);
            case "arrive":
                return x.arrive(a);
            case "reply":
                return x.reply(a);
            case "insert":
                return x.insert();
            case "feedback":
                return x.feedback();
            case "report":
                return x.report() ? 1 : 0;
            case "goaway":
                return x.goaway();
            case "notice":
                return x.notice();
            case "cancel":
                return x.cancel(a) ? 1 : 0;
            case "tick":
                return x.tick(a) ? 1 : 0;
            case "outcome":
                return x.outcome(a);
            case "content":
                return x.content(a);
            case "stored":
                return x.stored(a, b);
            case "entry":
                return x.entry(a, b);
            default:
                return x.count(a);
        }
    }

    boolean isRefusal(int answer) {
        switch (name) {
            case "drop":
            case "report":
            case "cancel":
            case "tick":
                return answer == 0;
            default:
                return answer == TabledOrigin.NONE;
        }
    }
}
