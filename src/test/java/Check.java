/** What the tests share: comparing an answer with the due one, and counting the wrong ones. */
final class Check {
    /** A call of the class, as a test hands it over. */
    interface Call {
        long answer();
    }

    /** A call of the class on a store that is still to come. */
    interface CallOn {
        long answer(CommitWaitStore store);
    }

    private static int wrong = 0;

    private Check() {
    }

    static void due(String call, long got, long want) {
        if (got != want) {
            report(call + " answered " + got + ", due is " + want);
        }
    }

    static void due(String call, boolean got, boolean want) {
        due(call, got ? 1 : 0, want ? 1 : 0);
    }

    static void due(String call, String got, String want) {
        if (!got.equals(want)) {
            report(call + " answered " + got + ", due is " + want);
        }
    }

    static void index(String name, Call call) {
        due(name, outcome(call), "throws.IndexOutOfBoundsException");
    }

    static void argument(String name, Call call) {
        due(name, outcome(call), "throws.IllegalArgumentException");
    }

    static void illegalState(String name, Call call) {
        due(name, outcome(call), "throws.IllegalStateException");
    }

    /** The answer as a text; the exact class of an exception, so that a subclass does not pass. */
    static String outcome(Call call) {
        try {
            return String.valueOf(call.answer());
        } catch (RuntimeException thrown) {
            return "throws." + thrown.getClass().getSimpleName();
        }
    }

    static void report(String line) {
        wrong++;
        System.out.println(line);
    }

    static boolean allDue() {
        return wrong == 0;
    }

    static void end(String test) {
        System.out.println(test + ": " + (wrong == 0 ? "all answers are as due" : wrong + " answers are not as due"));
        if (wrong != 0) {
            System.exit(1);
        }
    }

    static void append(CommitWaitStore store, String text) {
        for (int i = 0; i < text.length(); i++) {
            store.appendText(text.charAt(i));
        }
    }

    /** A transaction at a server that writes one key. */
    static int writer(CommitWaitStore store, int server, int key, int value) {
        int transaction = store.begin(server);
        store.write(transaction, key, value);
        return transaction;
    }

    /** All that the queries tell, to see that a call changed nothing. */
    static String everything(CommitWaitStore store) {
        return stateOf(store) + ' ' + store.savedStates() + ' ' + store.textLength() + ' ' + store.errorPosition();
    }

    /** All that the queries tell of the state, to see that an undo brought it back. */
    static String stateOf(CommitWaitStore store) {
        StringBuilder all = new StringBuilder();
        for (int server = 0; server < 3; server++) {
            all.append(store.reading(server)).append(' ').append(store.earliest(server)).append(' ');
            all.append(store.nextTimestamp(server)).append(' ').append(store.isSound(server)).append('\n');
        }
        for (int transaction = 0; transaction < store.transactions(); transaction++) {
            all.append(store.state(transaction)).append(' ').append(store.timestamp(transaction)).append(' ');
            all.append(store.requestTime(transaction)).append(' ').append(store.commitTime(transaction)).append(' ');
            for (int key = 0; key < 8; key++) {
                all.append(store.bufferedValue(transaction, key)).append('/');
                all.append(store.recordedTimestamp(transaction, key)).append(' ');
            }
            all.append(store.ifCommitted(transaction)).append(' ').append(store.ticksToCommit(transaction)).append('\n');
        }
        for (int key = 0; key < 8; key++) {
            all.append(store.versions(key)).append(' ').append(store.valueAt(key, 2147483647)).append(' ');
            all.append(store.waitingWriter(key)).append(' ').append(store.readerMark(key)).append('\n');
        }
        all.append(store.trueTime()).append(' ').append(store.safeTime()).append(' ').append(store.readFloor());
        return all.append(' ').append(store.unsoundUses()).toString();
    }
}
