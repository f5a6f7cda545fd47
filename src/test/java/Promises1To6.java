/** Promises 1 to 6: a new object, and the calls of transactions. */
final class Promises1To6 {
    private static final int NONE = CommitWaitStore.NONE;
    private static final int CONFLICT = CommitWaitStore.CONFLICT;
    private static final int LOCKED = CommitWaitStore.LOCKED;

    private Promises1To6() {
    }

    static void test(Sentences s) {
        newObject(s);
        begin(s);
        read(s);
        write(s);
        commit(s);
        outcomes(s);
        abort(s);
    }

    /** A store with a transaction in each state: 0 is open, 1 waiting, 2 committed, 3 aborted. */
    private static CommitWaitStore inEachState() {
        CommitWaitStore x = new CommitWaitStore();
        x.begin(0);
        x.begin(0);
        x.commit(x.begin(1));
        x.advance(12);
        x.commit(1);
        x.abort(x.begin(2));
        return x;
    }

    /** Only the open transaction is taken, the numbers beyond the transactions are refused otherwise. */
    private static void onlyOpen(String call, Check.CallWith onTransaction) {
        Check.taken(call + " of an open one", () -> onTransaction.answer(0));
        Check.illegalState(call + " of a waiting one", () -> onTransaction.answer(1));
        Check.illegalState(call + " of a committed one", () -> onTransaction.answer(2));
        Check.illegalState(call + " of an aborted one", () -> onTransaction.answer(3));
    }

    private static void newObject(Sentences s) {
        s.at("Promise 1");
        s.says("Creates a store at the true time 0, without transactions.", x -> {
            Check.due("trueTime()", x.trueTime(), 0);
            Check.due("transactions()", x.transactions(), 0);
            Check.index("state(0)", () -> x.state(0));
            x.begin(0);
            x.advance(1);
            CommitWaitStore second = new CommitWaitStore();
            Check.due("trueTime() of a second object", second.trueTime(), 0);
            Check.due("transactions() of a second object", second.transactions(), 0);
            second.advance(5);
            Check.due("trueTime() of the first object", x.trueTime(), 1);
        });
    }

    private static void begin(Sentences s) {
        s.at("Promise 2");
        s.says("Begins a transaction.", x -> {
            Check.index("state(0) before", () -> x.state(0));
            x.begin(0);
            Check.due("transactions()", x.transactions(), 1);
            Check.due("state(0)", x.state(0), CommitWaitStore.OPEN);
            Check.index("state(1)", () -> x.state(1));
        });
        s.says("Undoable.", x -> {
            Check.undone("the first begin", x, y -> y.begin(0));
            for (int i = 0; i < 39; i++) {
                x.begin(0);
            }
            x.begin(1);
            x.undo();
            Check.due("transactions() after the undo of the last begin", x.transactions(), 39);
        });
        s.says("`server`: the server of the transaction, 0 to 2", x -> {
            for (int server = 0; server < 3; server++) {
                x.synchronize(server, server);
                Check.due("ifCommitted at " + server, x.ifCommitted(x.begin(server)), 5 + server);
            }
        });
        s.says("Returns the number of the transaction.", x -> {
            for (int i = 0; i < 40; i++) {
                Check.due("begin", x.begin(0), i);
            }
        });
        s.says("Throws `IndexOutOfBoundsException` if there is no such server", x ->
                Check.range("begin", 0, 2, Check.INDEX, n -> x.begin(n)));
        s.says("Throws `IllegalStateException` if 40 transactions have begun", x -> {
            for (int i = 0; i < 39; i++) {
                x.begin(1);
            }
            Check.taken("begin while 39 have begun", () -> x.begin(1));
            Check.illegalState("begin while 40 have begun", () -> x.begin(1));
            Check.illegalState("begin once more", () -> x.begin(0));
        });
    }

    private static void read(Sentences s) {
        s.at("Promise 3");
        s.says("Reads a key in an open transaction.", x -> {
            x.begin(0);
            x.begin(0);
            x.read(0, 7);
            Check.due("recordedTimestamp", x.recordedTimestamp(0, 7), 0);
            Check.due("recordedTimestamp of another key", x.recordedTimestamp(0, 0), NONE);
            Check.due("recordedTimestamp in another transaction", x.recordedTimestamp(1, 7), NONE);
        });
        s.says("Undoable.", x -> {
            x.begin(0);
            Check.undone("read", x, y -> y.read(0, 0));
            Check.due("recordedTimestamp after the undo", x.recordedTimestamp(0, 0), NONE);
        });
        s.says("`transaction`: the number of a transaction", x -> {
            x.begin(0);
            x.begin(0);
            Check.range("read", 0, 1, Check.INDEX, n -> x.read(n, 0));
        });
        s.says("`key`: 0 to 7", x -> {
            x.begin(0);
            Check.range("read", 0, 7, Check.INDEX, n -> x.read(0, n));
        });
        s.says("Returns the value that the read returns (section 3).", x -> {
            x.commit(Check.writer(x, 0, 0, 9999));
            x.advance(12);
            int t = x.begin(1);
            Check.due("read of the newest version", x.read(t, 0), 9999);
            Check.due("read of the first version", x.read(t, 7), 0);
            x.write(t, 0, 0);
            Check.due("read of a buffered 0", x.read(t, 0), 0);
            x.write(t, 7, 9999);
            Check.due("read of a buffered 9999", x.read(t, 7), 9999);
        });
        s.says("Throws `IndexOutOfBoundsException` if there is no such transaction or no such key", x -> {
            Check.index("read(0, 0) before the first begin", () -> x.read(0, 0));
            for (int i = 0; i < 40; i++) {
                x.begin(0);
            }
            Check.range("read, 40 transactions", 0, 39, Check.INDEX, n -> x.read(n, 0));
            x.undo();
            x.undo();
            x.undo();
            Check.index("read of a transaction that is undone", () -> x.read(39, 0));
            Check.range("read, key", 0, 7, Check.INDEX, n -> x.read(38, n));
        });
        s.says("Throws `IllegalStateException` if the transaction is not open", x -> {
            CommitWaitStore y = inEachState();
            onlyOpen("read", n -> y.read(n, 0));
        });
    }

    private static void write(Sentences s) {
        s.at("Promise 4");
        s.says("Writes a key in an open transaction.", x -> {
            x.begin(0);
            x.begin(0);
            x.write(0, 7, 3);
            Check.due("bufferedValue", x.bufferedValue(0, 7), 3);
            Check.due("bufferedValue of another key", x.bufferedValue(0, 0), NONE);
            Check.due("bufferedValue in another transaction", x.bufferedValue(1, 7), NONE);
        });
        s.says("Undoable.", x -> {
            x.begin(0);
            Check.undone("write", x, y -> y.write(0, 0, 0));
            Check.due("bufferedValue after the undo", x.bufferedValue(0, 0), NONE);
        });
        s.says("`transaction`: the number of a transaction", x -> {
            x.begin(0);
            x.begin(0);
            Check.range("write", 0, 1, Check.INDEX, n -> x.write(n, 0, 0));
        });
        s.says("`key`: 0 to 7", x -> {
            x.begin(0);
            Check.range("write", 0, 7, Check.INDEX, n -> x.write(0, n, 0));
        });
        s.says("`value`: 0 to 9999", x -> {
            x.begin(0);
            x.write(0, 0, 0);
            x.write(0, 7, 9999);
            Check.due("bufferedValue, the least", x.bufferedValue(0, 0), 0);
            Check.due("bufferedValue, the greatest", x.bufferedValue(0, 7), 9999);
            x.commit(0);
            x.advance(12);
            Check.due("valueAt, the least", x.valueAt(0, 5), 0);
            Check.due("valueAt, the greatest", x.valueAt(7, 5), 9999);
        });
        s.says("Returns the number of keys that the transaction has written, after this write.", x -> {
            x.begin(0);
            x.read(0, 0);
            for (int key = 7; key >= 0; key--) {
                Check.due("write", x.write(0, key, 0), 8 - key);
                Check.due("write of the same key", x.write(0, key, 1), 8 - key);
            }
            Check.due("write of the eighth key again", x.write(0, 7, 0), 8);
        });
        s.says("Throws `IndexOutOfBoundsException` if there is no such transaction or no such key", x -> {
            Check.index("write(0, 0, 0) before the first begin", () -> x.write(0, 0, 0));
            for (int i = 0; i < 40; i++) {
                x.begin(0);
            }
            Check.range("write, 40 transactions", 0, 39, Check.INDEX, n -> x.write(n, 0, 0));
            Check.range("write, key", 0, 7, Check.INDEX, n -> x.write(39, n, 0));
        });
        s.says("Throws `IllegalArgumentException` if the value is out of range", x -> {
            x.begin(0);
            Check.range("write, value", 0, 9999, Check.ARGUMENT, n -> x.write(0, 0, n));
        });
        s.says("Throws `IllegalStateException` if the transaction is not open", x -> {
            CommitWaitStore y = inEachState();
            onlyOpen("write", n -> y.write(n, 0, 0));
        });
    }

    private static void commit(Sentences s) {
        s.at("Promise 5");
        s.says("Requests the commit of an open transaction (section 4).", x -> {
            x.begin(0);
            x.begin(0);
            x.commit(1);
            Check.due("state(1)", x.state(1), CommitWaitStore.WAITING);
            Check.due("state(0)", x.state(0), CommitWaitStore.OPEN);
        });
        s.says("Undoable, unless LOCKED is returned.", x -> {
            int reader = Check.reader(x, 1, 0);
            Check.undone("commit that is accepted", x, y -> y.commit(reader));
            int writer = Check.writer(x, 0, 0, 1);
            x.commit(writer);
            Check.due("savedStates()", x.savedStates(), 5);
            Check.due("commit", x.commit(reader), LOCKED);
            Check.due("savedStates() after LOCKED", x.savedStates(), 5);
            x.undo();
            Check.due("the undo is that of the call before", x.state(writer), CommitWaitStore.OPEN);
            x.commit(writer);
            x.advance(12);
            x.save(0);
            for (int i = 0; i < 5; i++) {
                x.undo();
            }
            x.restore(0);
            Check.undone("commit that conflicts", x, y -> y.commit(reader));
            Check.due("commit", x.commit(reader), CONFLICT);
        });
        s.says("`transaction`: the number of a transaction", x -> {
            x.begin(0);
            x.begin(0);
            Check.range("commit", 0, 1, Check.INDEX, n -> x.commit(n));
        });
        s.says("Throws `IndexOutOfBoundsException` if there is no such transaction", x -> {
            Check.index("commit(0) before the first begin", () -> x.commit(0));
            for (int i = 0; i < 40; i++) {
                x.begin(0);
            }
            Check.range("commit, 40 transactions", 0, 39, Check.INDEX, n -> x.commit(n));
        });
        s.says("Throws `IllegalStateException` if the transaction is not open", x -> {
            CommitWaitStore y = inEachState();
            onlyOpen("commit", n -> y.commit(n));
            Check.illegalState("commit of the one that waits since", () -> y.commit(0));
        });
    }

    private static void outcomes(Sentences s) {
        s.says("Returns the commit timestamp if the request is accepted;", x -> {
            x.synchronize(0, -500);
            x.begin(0);
            Check.due("commit, the least timestamp", x.commit(0), 1);
            Check.due("timestamp", x.timestamp(0), 1);
            x.setDrift(1, 100);
            x.setUncertainty(1, 500, 100);
            Check.goTo(x, 1000000);
            x.begin(1);
            Check.due("commit, late and ahead", x.commit(1), 1200500);
            Check.due("timestamp", x.timestamp(1), 1200500);
        });
        s.says("CONFLICT if the outcome is a conflict;", x -> {
            int t = Check.reader(x, 1, 0);
            x.commit(Check.writer(x, 0, 0, 1));
            x.advance(12);
            Check.due("commit", x.commit(t), CONFLICT);
        });
        s.says("LOCKED if the outcome is a lock.", x -> {
            int t = Check.reader(x, 1, 0);
            x.commit(Check.writer(x, 0, 0, 1));
            Check.due("commit", x.commit(t), LOCKED);
            x.advance(11);
            Check.due("commit, asked for again", x.commit(t), LOCKED);
        });
    }

    private static void abort(Sentences s) {
        s.at("Promise 6");
        s.says("Aborts an open transaction.", x -> {
            x.begin(0);
            x.begin(0);
            x.abort(1);
            Check.due("state(1)", x.state(1), CommitWaitStore.ABORTED);
            Check.due("state(0)", x.state(0), CommitWaitStore.OPEN);
        });
        s.says("Undoable.", x -> {
            x.begin(0);
            Check.undone("abort", x, y -> y.abort(0));
            Check.due("state after the undo", x.state(0), CommitWaitStore.OPEN);
        });
        s.says("`transaction`: the number of a transaction", x -> {
            x.begin(0);
            x.begin(0);
            Check.range("abort", 0, 1, Check.INDEX, n -> x.abort(n));
        });
        s.says("Returns the number of keys that the transaction has written.", x -> {
            for (int written = 0; written <= 8; written++) {
                int t = Check.reader(x, 0, 0);
                for (int key = 0; key < written; key++) {
                    x.write(t, key, 0);
                }
                Check.due("abort, " + written + " keys are written", x.abort(t), written);
            }
            int last = Check.writer(x, 0, 7, 1);
            x.write(last, 7, 2);
            Check.due("abort, one key is written twice", x.abort(last), 1);
        });
        s.says("Throws `IndexOutOfBoundsException` if there is no such transaction", x -> {
            Check.index("abort(0) before the first begin", () -> x.abort(0));
            for (int i = 0; i < 40; i++) {
                x.begin(0);
            }
            Check.range("abort, 40 transactions", 0, 39, Check.INDEX, n -> x.abort(n));
        });
        s.says("Throws `IllegalStateException` if the transaction is not open", x -> {
            CommitWaitStore y = inEachState();
            onlyOpen("abort", n -> y.abort(n));
            Check.illegalState("abort of the one that is aborted since", () -> y.abort(0));
        });
    }
}
