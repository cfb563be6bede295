import java.util.ArrayList;
import java.util.List;

/**
 * "A call that answers NONE or false changes nothing." Two objects get the same run of calls, one of
 * them with refused calls in between: every answer is the same.
 */
public final class RefusedCallsTest {
    private static final int RUNS = 400;
    private static final int STEPS = 150;

    private static final int[] WRONG = {-1, 6, 60, 1001, Integer.MIN_VALUE, Integer.MAX_VALUE};

    public static void main(String[] args) {
        Check check = new Check();
        for (int seed = 0; seed < RUNS; seed++) {
            betweenTheCallsOfARun(check, seed);
        }
        everyRefusedCallAtOnce(check, "a new object", new TabledOrigin(), new TabledOrigin());
        everyRefusedCallAtOnce(check, "a full table", Steps.fullTable(), Steps.fullTable());
        everyRefusedCallAtOnce(check, "two at risk", Steps.twoAtRisk(), Steps.twoAtRisk());
        everyRefusedCallAtOnce(check, "all outcomes", Steps.allOutcomes(), Steps.allOutcomes());
        sixtyRequests(check);
        check.finish();
    }

    private static void betweenTheCallsOfARun(Check check, int seed) {
        RandomCalls calls = new RandomCalls(seed);
        RandomCalls others = new RandomCalls(-1 - seed);
        TabledOrigin plain = new TabledOrigin();
        TabledOrigin disturbed = new TabledOrigin();
        List<Call> run = new ArrayList<>();
        for (int i = 0; i < STEPS; i++) {
            Call other = others.next();
            if (other.isRefusal(other.on(again(run)))) {
                String what = "seed " + seed + ", before call " + i + ": " + other;
                check.due(what + " is refused", other.isRefusal(other.on(disturbed)), true);
            }
            Call call = calls.next();
            int due = call.on(plain);
            check.due("seed " + seed + ", call " + i + ": " + call, call.on(disturbed), due);
            run.add(call);
            if (call.name().equals("get") || call.name().equals("replace")) {
                calls.madeRequest(due);
                others.madeRequest(due);
            }
        }
        same(check, "seed " + seed, plain, disturbed);
    }

    private static TabledOrigin again(List<Call> run) {
        TabledOrigin x = new TabledOrigin();
        for (Call call : run) {
            call.on(x);
        }
        return x;
    }

    private static void same(Check check, String when, TabledOrigin plain, TabledOrigin disturbed) {
        for (Call call : RandomCalls.look()) {
            check.due(when + ", at the end: " + call, call.on(disturbed), call.on(plain));
        }
    }

    private static void everyRefusedCallAtOnce(Check check, String when, TabledOrigin plain, TabledOrigin disturbed) {
        for (Call call : callsWithWrongArguments()) {
            check.due(when + ": " + call + " is refused", call.isRefusal(call.on(disturbed)), true);
        }
        same(check, when, plain, disturbed);
        Call[] next = {
            new Call("put", 5, 1, 1), new Call("get", 5, 0, 0), new Call("replace", 4, 1, 1),
            new Call("report", 0, 0, 0), new Call("insert", 0, 0, 0), new Call("feedback", 0, 0, 0),
            new Call("goaway", 0, 0, 0), new Call("notice", 0, 0, 0)
        };
        for (Call call : next) {
            check.due(when + ", then " + call, call.on(disturbed), call.on(plain));
        }
    }

    private static List<Call> callsWithWrongArguments() {
        List<Call> calls = new ArrayList<>();
        for (int wrong : WRONG) {
            calls.add(new Call("put", wrong, 7, 7));
            calls.add(new Call("drop", wrong, 0, 0));
            calls.add(new Call("get", wrong, 0, 0));
            calls.add(new Call("replace", wrong, 7, 7));
            calls.add(new Call("stored", wrong, 0, 0));
            calls.add(new Call("stored", 0, wrong, 0));
            calls.add(new Call("entry", wrong, 0, 0));
            calls.add(new Call("entry", 0, wrong, 0));
            if (wrong < 0 || wrong >= 60) {
                calls.add(new Call("arrive", wrong, 0, 0));
                calls.add(new Call("reply", wrong, 0, 0));
                calls.add(new Call("cancel", wrong, 0, 0));
                calls.add(new Call("outcome", wrong, 0, 0));
                calls.add(new Call("content", wrong, 0, 0));
                calls.add(new Call("count", wrong, 0, 0));
            }
            if (wrong < 0 || wrong > 1000) {
                calls.add(new Call("put", 0, 7, wrong));
                calls.add(new Call("replace", 0, 7, wrong));
                calls.add(new Call("tick", wrong, 0, 0));
            }
        }
        return calls;
    }

    private static void sixtyRequests(Check check) {
        TabledOrigin plain = new TabledOrigin();
        TabledOrigin disturbed = new TabledOrigin();
        for (int i = 0; i < 60; i++) {
            plain.get(i % 6);
            disturbed.get(i % 6);
        }
        for (int resource = 0; resource < 6; resource++) {
            check.due("one GET too many", disturbed.get(resource), Steps.NONE);
            check.due("one PUT too many", disturbed.replace(resource, 7, 7), Steps.NONE);
        }
        same(check, "sixty requests", plain, disturbed);
        for (int request = 0; request < 60; request++) {
            check.due("arrive", disturbed.arrive(request), plain.arrive(request));
        }
        check.due("limit", disturbed.goaway(), plain.goaway());
        check.due("nothing was written", disturbed.drop(0), false);
    }
}
