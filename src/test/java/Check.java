/** What the tests share: comparing an answer with the due one, and counting the wrong ones. */
final class Check {
    /** A call of the class, as a test hands it over. */
    interface Call {
        long answer();
    }

    /** A call of the class on a store that is still to come. */
    interface CallOn {
        long answer(CommitWaitStore store);
    }

    /** A call of the class with a number that is still to come. */
    interface CallWith {
        long answer(int number);
    }

    static final String INDEX = "throws.IndexOutOfBoundsException";
    static final String ARGUMENT = "throws.IllegalArgumentException";
    static final String STATE = "throws.IllegalStateException";
    static final int MOST = Integer.MAX_VALUE;
    static final int LEAST = Integer.MIN_VALUE;

    private static final int MOST_SECONDS = 300;

    private static int wrong = 0;

    static {
        // A call that does not end would leave the test without an answer for ever.
        Thread watch = new Thread(Check::stopLate);
        watch.setDaemon(true);
        watch.start();
    }

    private Check() {
    }

    private static void stopLate() {
        try {
            Thread.sleep(1000L * MOST_SECONDS);
        } catch (InterruptedException early) {
            return;
        }
        System.out.println("a call does not end");
        Runtime.getRuntime().halt(1);
    }

    static void due(String call, long got, long want) {
        if (got != want) {
            report(call + " answered " + got + ", due is " + want);
        }
    }

    static void due(String call, boolean got, boolean want) {
        due(call, got ? 1 : 0, want ? 1 : 0);
    }

    static void due(String call, String got, String want) {
        if (!got.equals(want)) {
            report(call + " answered " + got + ", due is " + want);
        }
    }

    static void index(String name, Call call) {
        due(name, outcome(call), INDEX);
    }

    static void argument(String name, Call call) {
        due(name, outcome(call), ARGUMENT);
    }

    static void illegalState(String name, Call call) {
        due(name, outcome(call), STATE);
    }

    /** The least and the greatest number are taken; the first ones beyond, and the farthest, are refused. */
    static void range(String call, int least, int greatest, String exception, CallWith onNumber) {
        for (int number : new int[] {least - 1, greatest + 1, LEAST, MOST}) {
            due(call + " with " + number, outcome(() -> onNumber.answer(number)), exception);
        }
        for (int number : new int[] {least, greatest}) {
            taken(call + " with " + number, () -> onNumber.answer(number));
        }
    }

    /** Every number from 0 on is taken; the first one below, and the farthest, are refused. */
    static void notNegative(String call, CallWith onNumber) {
        argument(call + " with -1", () -> onNumber.answer(-1));
        argument(call + " with the least number", () -> onNumber.answer(LEAST));
        taken(call + " with 0", () -> onNumber.answer(0));
        taken(call + " with the greatest number", () -> onNumber.answer(MOST));
    }

    /** The call answers, whatever the answer is. */
    static void taken(String name, Call call) {
        due(name + " answers", outcome(call).startsWith("throws."), false);
    }

    /** The call saves one state, and an undo brings back all that the queries tell of the state. */
    static void undone(String call, CommitWaitStore store, CallOn undoable) {
        int saved = store.savedStates();
        String before = stateOf(store);
        undoable.answer(store);
        due("savedStates() after " + call, store.savedStates(), saved + 1);
        due("undo() of " + call, store.undo(), saved);
        due("the store after the undo of " + call, stateOf(store), before);
    }

    /** The call throws the exception, and the queries tell the same before and after it. */
    static void refused(String call, CommitWaitStore store, String exception, CallOn refused) {
        String before = everything(store);
        due(call, outcome(() -> refused.answer(store)), exception);
        due("the store after " + call, everything(store), before);
    }

    /** The answer as a text; the exact class of an exception, so that a subclass does not pass. */
    static String outcome(Call call) {
        try {
            return String.valueOf(call.answer());
        } catch (RuntimeException thrown) {
            return "throws." + thrown.getClass().getSimpleName();
        }
    }

    static void report(String line) {
        wrong++;
        System.out.println(line);
    }

    static boolean allDue() {
        return wrong == 0;
    }

    static int wrongAnswers() {
        return wrong;
    }

    static void end(String test) {
        System.out.println(test + ": " + (wrong == 0 ? "all answers are as due" : wrong + " answers are not as due"));
        if (wrong != 0) {
            System.exit(1);
        }
    }

    static void append(CommitWaitStore store, String text) {
        for (int i = 0; i < text.length(); i++) {
            store.appendText(text.charAt(i));
        }
    }

    /** The error position of a text, on a new store. */
    static void position(String text, int want) {
        CommitWaitStore store = new CommitWaitStore();
        append(store, text);
        due("errorPosition() of " + text, store.errorPosition(), want);
    }

    /** Empties the buffer, appends the text and runs it. */
    static int executed(CommitWaitStore store, String text) {
        store.clearText();
        append(store, text);
        return store.runText();
    }

    /** A transaction at a server that writes one key. */
    static int writer(CommitWaitStore store, int server, int key, int value) {
        int transaction = store.begin(server);
        store.write(transaction, key, value);
        return transaction;
    }

    /** A transaction at a server that reads one key. */
    static int reader(CommitWaitStore store, int server, int key) {
        int transaction = store.begin(server);
        store.read(transaction, key);
        return transaction;
    }

    /**
     * Four transactions, made by one text: 0 is committed, 1 is open and has read a version that
     * was the newest, 2 is waiting, 3 is aborted. One more call has set the read floor.
     */
    static CommitWaitStore busyStore() {
        CommitWaitStore store = new CommitWaitStore();
        append(store, "b0;w0,0,1;r0,1;c0;t40;b1;r1,0;b1;w2,0,5;c2;b2;w3,2,7;a3;s0,4");
        due("runText()", store.runText(), 14);
        store.snapshotRead(0, 20);
        return store;
    }

    /** Goes on to a true time by few calls, even if it is far off. */
    static void goTo(CommitWaitStore store, int time) {
        int left = time - store.trueTime();
        if (left >= 13000) {
            append(store, "t1000;t1000;t1000;t1000;t1000;t1000;t1000;t1000;t1000;t1000;t1000;t1000;t1000");
            for (; left >= 13000; left -= 13000) {
                store.runText();
            }
            store.clearText();
        }
        for (; left >= 1000; left -= 1000) {
            store.advance(1000);
        }
        if (left > 0) {
            store.advance(left);
        }
        due("trueTime() on the way", store.trueTime(), time);
    }

    static CommitWaitStore storeAt(int time) {
        CommitWaitStore store = new CommitWaitStore();
        goTo(store, time);
        return store;
    }

    /** All that the queries tell, to see that a call changed nothing. */
    static String everything(CommitWaitStore store) {
        return stateOf(store) + ' ' + store.savedStates() + ' ' + store.textLength() + ' ' + store.errorPosition();
    }

    /** All that the queries tell of the state, to see that an undo brought it back. */
    static String stateOf(CommitWaitStore store) {
        StringBuilder all = new StringBuilder();
        for (int server = 0; server < 3; server++) {
            all.append(store.reading(server)).append(' ').append(store.earliest(server)).append(' ');
            all.append(store.nextTimestamp(server)).append(' ').append(store.isSound(server)).append('\n');
        }
        for (int transaction = 0; transaction < store.transactions(); transaction++) {
            all.append(store.state(transaction)).append(' ').append(store.timestamp(transaction)).append(' ');
            all.append(store.requestTime(transaction)).append(' ').append(store.commitTime(transaction)).append(' ');
            for (int key = 0; key < 8; key++) {
                all.append(store.bufferedValue(transaction, key)).append('/');
                all.append(store.recordedTimestamp(transaction, key)).append(' ');
            }
            all.append(store.ifCommitted(transaction)).append(' ').append(store.ticksToCommit(transaction)).append('\n');
        }
        for (int key = 0; key < 8; key++) {
            all.append(store.versions(key)).append(' ').append(store.valueAt(key, 2147483647)).append(' ');
            all.append(store.waitingWriter(key)).append(' ').append(store.readerMark(key)).append('\n');
        }
        all.append(store.trueTime()).append(' ').append(store.safeTime()).append(' ').append(store.readFloor());
        all.append(' ').append(store.unsoundUses()).append(' ').append(store.totalWait());
        return all.append(' ').append(store.inversions()).toString();
    }
}
