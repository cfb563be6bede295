public final class Promise18EntryTest {
    public static void main(String[] args) {
        Check check = new Check();
        countedFromTheNewest(check);
        referencesOfOutstandingAnswers(check);
        fiveAtMost(check);
        noneBehindTheLiveOnes(check);
        wrongInputs(check);
        check.finish();
    }

    private static void countedFromTheNewest(Check check) {
        TabledOrigin x = Steps.fullTable();
        int[][] due = {{2, 200}, {0, 2}, {2, 100}, {1, 10}, {0, 1}};
        for (int k = 0; k < due.length; k++) {
            check.due("name " + k, x.entry(k, 0), due[k][0]);
            check.due("value " + k, x.entry(k, 1), due[k][1]);
            check.due("references " + k, x.entry(k, 2), 0);
        }
    }

    private static void referencesOfOutstandingAnswers(Check check) {
        TabledOrigin x = Steps.twoAtRisk();
        int[] due = {1, 1, 1, 2, 1};
        for (int k = 0; k < due.length; k++) {
            check.due("references " + k, x.entry(k, 2), due[k]);
        }
        x.reply(0);
        check.due("blocked", x.entry(3, 2), 2);
        Steps.takeInstructions(x);
        check.due("read, but not acknowledged at the server", x.entry(3, 2), 2);
        x.feedback();
        check.due("acknowledged", x.entry(3, 2), 1);
        x.cancel(1);
        check.due("cancelled at the client alone", x.entry(3, 2), 1);
        x.feedback();
        check.due("cancelled", x.entry(3, 2), 0);
    }

    private static void fiveAtMost(Check check) {
        TabledOrigin x = Steps.fullTable();
        for (int i = 0; i < 12; i++) {
            Steps.write(x, 5, i, i);
            check.due("the newest tag", x.entry(0, 1), i + 3);
            check.due("no sixth", x.entry(5, 0), Steps.NONE);
            check.due("the oldest is there", x.entry(4, 2), 0);
        }
        for (int k = 0; k < 5; k++) {
            check.due("value " + k, x.entry(k, 1), 14 - k);
        }
    }

    private static void noneBehindTheLiveOnes(Check check) {
        TabledOrigin x = new TabledOrigin();
        for (int made = 0; made <= 7; made++) {
            int live = Math.min(made, 5);
            for (int which = 0; which <= 2; which++) {
                check.due("the first behind " + live, x.entry(live, which), Steps.NONE);
            }
            if (live > 0) {
                check.due("the last of " + live, x.entry(live - 1, 0), 0);
                check.due("which 3", x.entry(live - 1, 3), Steps.NONE);
                check.due("which -1", x.entry(live - 1, -1), Steps.NONE);
            }
            Steps.write(x, 0, 0, 0);
        }
    }

    private static void wrongInputs(Check check) {
        TabledOrigin x = new TabledOrigin();
        check.due("empty table", x.entry(0, 0), Steps.NONE);
        x.put(0, 1, 1);
        x.arrive(x.get(0));
        int[] wrongPlaces = {-1, 3, 5, Integer.MIN_VALUE, Integer.MAX_VALUE};
        for (int k : wrongPlaces) {
            check.due("entry " + k, x.entry(k, 0), Steps.NONE);
        }
        int[] wrongParts = {-1, 3, Integer.MIN_VALUE, Integer.MAX_VALUE};
        for (int which : wrongParts) {
            check.due("which " + which, x.entry(0, which), Steps.NONE);
        }
    }
}
