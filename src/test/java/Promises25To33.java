/** Promises 25 to 33: the queries about transactions. */
final class Promises25To33 {
    private static final int NONE = CommitWaitStore.NONE;

    private Promises25To33() {
    }

    static void test(Sentences s) {
        transactions(s);
        state(s);
        timestamp(s);
        requestTime(s);
        commitTime(s);
        bufferedValue(s);
        recordedTimestamp(s);
        ifCommitted(s);
        ticksToCommit(s);
        longestWaits(s);
    }

    /** The two sentences that all these queries share: the numbers from 0 to the last begun are taken. */
    private static void ofTransaction(Sentences s, String call, String thrown, OnTransaction query) {
        s.says("`transaction`: the number of a transaction", x -> {
            Check.index(call + " with 0 before the first begin", () -> query.answer(x, 0));
            x.begin(0);
            Check.range(call, 0, 0, Check.INDEX, n -> query.answer(x, n));
            x.begin(1);
            Check.range(call, 0, 1, Check.INDEX, n -> query.answer(x, n));
            x.undo();
            Check.index(call + " with the one that is undone", () -> query.answer(x, 1));
        });
        s.says(thrown, x -> {
            for (int i = 0; i < 40; i++) {
                x.begin(0);
            }
            Check.range(call, 0, 39, Check.INDEX, n -> query.answer(x, n));
        });
    }

    /** A query about a transaction. */
    private interface OnTransaction {
        long answer(CommitWaitStore store, int transaction);
    }

    private static final String NO_TRANSACTION = "Throws `IndexOutOfBoundsException` if there is no such transaction";
    private static final String NO_TRANSACTION_OR_KEY = NO_TRANSACTION + " or no such key";

    private static void transactions(Sentences s) {
        s.at("Promise 25");
        s.says("Returns the number of transactions that have begun.", x -> {
            for (int i = 0; i < 40; i++) {
                Check.due("transactions()", x.transactions(), i);
                x.begin(0);
            }
            Check.due("transactions(), the most", x.transactions(), 40);
            Check.illegalState("begin(0)", () -> x.begin(0));
            Check.due("transactions() after a refused begin", x.transactions(), 40);
            x.abort(39);
            Check.due("transactions() after an abort", x.transactions(), 40);
            x.undo();
            x.undo();
            Check.due("transactions() after undo()", x.transactions(), 39);
        });
    }

    private static void state(Sentences s) {
        s.at("Promise 26");
        s.says("Returns the state of a transaction.", x -> {
            x.begin(0);
            x.abort(x.begin(0));
            x.commit(x.begin(0));
            Check.due("state(0)", x.state(0), CommitWaitStore.OPEN);
            Check.due("state(1)", x.state(1), CommitWaitStore.ABORTED);
            Check.due("state(2)", x.state(2), CommitWaitStore.WAITING);
        });
        s.says("Returns OPEN, WAITING, COMMITTED or ABORTED.", x -> {
            Check.due("state", x.state(x.begin(0)), CommitWaitStore.OPEN);
            x.commit(0);
            x.advance(11);
            Check.due("state, the last tick of the wait", x.state(0), CommitWaitStore.WAITING);
            x.advance(1);
            Check.due("state, a tick later", x.state(0), CommitWaitStore.COMMITTED);
            x.undo();
            Check.due("state after undo()", x.state(0), CommitWaitStore.WAITING);
            x.undo();
            x.undo();
            Check.due("state after three undos", x.state(0), CommitWaitStore.OPEN);
            x.abort(0);
            Check.due("state", x.state(0), CommitWaitStore.ABORTED);
        });
        ofTransaction(s, "state", NO_TRANSACTION, (x, t) -> x.state(t));
    }

    private static void timestamp(Sentences s) {
        s.at("Promise 27");
        s.says("Returns the commit timestamp of a transaction.", x -> {
            for (int i = 0; i < 3; i++) {
                x.commit(x.begin(0));
            }
            for (int i = 0; i < 3; i++) {
                Check.due("timestamp(" + i + ")", x.timestamp(i), 5 + i);
            }
        });
        s.says("Returns the commit timestamp; NONE if the transaction is open or aborted.", x -> {
            x.synchronize(0, -500);
            x.begin(0);
            Check.due("timestamp of an open one", x.timestamp(0), NONE);
            x.commit(0);
            Check.due("timestamp of a waiting one", x.timestamp(0), 1);
            x.advance(1000);
            Check.due("timestamp of a committed one", x.timestamp(0), 1);
            x.abort(x.begin(0));
            Check.due("timestamp of an aborted one", x.timestamp(1), NONE);
            int conflicting = Check.reader(x, 1, 0);
            x.commit(Check.writer(x, 0, 0, 1));
            x.advance(1000);
            Check.due("commit", x.commit(conflicting), CommitWaitStore.CONFLICT);
            Check.due("timestamp of one with a conflict", x.timestamp(conflicting), NONE);
        });
        ofTransaction(s, "timestamp", NO_TRANSACTION, (x, t) -> x.timestamp(t));
    }

    private static void requestTime(Sentences s) {
        s.at("Promise 28");
        s.says("Returns the true time at which a transaction became waiting.", x -> {
            x.begin(0);
            x.begin(0);
            x.commit(0);
            x.advance(1);
            x.commit(1);
            x.advance(100);
            Check.due("requestTime(0), the least", x.requestTime(0), 0);
            Check.due("requestTime(1)", x.requestTime(1), 1);
            CommitWaitStore late = Check.storeAt(1000000);
            late.commit(late.begin(0));
            Check.due("requestTime(0), the greatest", late.requestTime(0), 1000000);
        });
        s.says("Returns this time; NONE if the transaction is open or aborted.", x -> {
            x.advance(3);
            x.begin(0);
            Check.due("requestTime of an open one", x.requestTime(0), NONE);
            x.commit(0);
            Check.due("requestTime of a waiting one", x.requestTime(0), 3);
            x.advance(1000);
            Check.due("requestTime of a committed one", x.requestTime(0), 3);
            x.abort(x.begin(0));
            Check.due("requestTime of an aborted one", x.requestTime(1), NONE);
            int locked = Check.reader(x, 1, 0);
            x.commit(Check.writer(x, 0, 0, 1));
            x.commit(locked);
            Check.due("requestTime after LOCKED", x.requestTime(locked), NONE);
            x.advance(1000);
            x.commit(locked);
            Check.due("requestTime after CONFLICT", x.requestTime(locked), NONE);
        });
        ofTransaction(s, "requestTime", NO_TRANSACTION, (x, t) -> x.requestTime(t));
    }

    private static void commitTime(Sentences s) {
        s.at("Promise 29");
        s.says("Returns the true time at which a transaction became committed.", x -> {
            x.setUncertainty(0, 0, 0);
            x.commit(x.begin(0));
            x.synchronize(0, 500);
            x.advance(1000);
            Check.due("commitTime(0), the least", x.commitTime(0), 1);
            x.commit(x.begin(1));
            x.advance(1000);
            // The timestamp is 1007; the clock is 8 behind from 1001 to 1500.
            Check.due("commitTime(1)", x.commitTime(1), 1016);
            CommitWaitStore late = Check.storeAt(999999);
            late.setUncertainty(0, 0, 0);
            late.commit(late.begin(0));
            late.commit(late.begin(0));
            Check.due("advance(1)", late.advance(1), 1);
            Check.due("commitTime(0), the greatest", late.commitTime(0), 1000000);
            Check.due("commitTime(1), it waits for ever", late.commitTime(1), NONE);
        });
        s.says("Returns this time; NONE if the transaction is not committed.", x -> {
            x.begin(0);
            Check.due("commitTime of an open one", x.commitTime(0), NONE);
            x.commit(0);
            x.advance(11);
            Check.due("commitTime of a waiting one", x.commitTime(0), NONE);
            x.advance(1);
            Check.due("commitTime of a committed one", x.commitTime(0), 12);
            x.advance(1);
            Check.due("commitTime, a tick later", x.commitTime(0), 12);
            x.abort(x.begin(0));
            Check.due("commitTime of an aborted one", x.commitTime(1), NONE);
        });
        ofTransaction(s, "commitTime", NO_TRANSACTION, (x, t) -> x.commitTime(t));
    }

    private static void bufferedValue(Sentences s) {
        s.at("Promise 30");
        s.says("Returns the value that a transaction has buffered for a key, whatever the state of the transaction is.", x -> {
            int t = Check.writer(x, 0, 0, 0);
            x.write(t, 7, 9999);
            int aborted = Check.writer(x, 0, 7, 8);
            x.abort(aborted);
            for (int ticks = 1; ticks <= 3; ticks++) {
                Check.due("bufferedValue, the least", x.bufferedValue(t, 0), 0);
                Check.due("bufferedValue, the greatest", x.bufferedValue(t, 7), 9999);
                Check.due("bufferedValue of an aborted one", x.bufferedValue(aborted, 7), 8);
                if (ticks == 1) {
                    x.commit(t);
                }
                x.advance(11);
            }
            Check.due("state", x.state(t), CommitWaitStore.COMMITTED);
        });
        s.says("`key`: 0 to 7", x -> {
            x.begin(0);
            Check.range("bufferedValue", 0, 7, Check.INDEX, n -> x.bufferedValue(0, n));
        });
        s.says("Returns the buffered value; NONE if the transaction has not written the key.", x -> {
            int t = Check.reader(x, 0, 3);
            x.write(t, 4, 0);
            x.begin(0);
            for (int key = 0; key < 8; key++) {
                Check.due("bufferedValue, key " + key, x.bufferedValue(t, key), key == 4 ? 0 : NONE);
                Check.due("bufferedValue of another one", x.bufferedValue(t + 1, key), NONE);
            }
        });
        ofTransaction(s, "bufferedValue", NO_TRANSACTION_OR_KEY, (x, t) -> x.bufferedValue(t, 7));
        s.says("or no such key", x -> {
            x.begin(0);
            Check.index("bufferedValue(0, 8)", () -> x.bufferedValue(0, 8));
            Check.index("bufferedValue(0, -1)", () -> x.bufferedValue(0, -1));
            Check.index("bufferedValue(1, 8)", () -> x.bufferedValue(1, 8));
        });
    }

    private static void recordedTimestamp(Sentences s) {
        s.at("Promise 31");
        s.says("Returns the timestamp of the version of a key that is recorded in a transaction, whatever the state of the "
                + "transaction is.", x -> {
            x.commit(Check.writer(x, 0, 7, 1));
            x.advance(12);
            int t = Check.reader(x, 0, 7);
            x.read(t, 0);
            int aborted = Check.reader(x, 0, 7);
            x.abort(aborted);
            for (int round = 1; round <= 3; round++) {
                Check.due("recordedTimestamp of the first version", x.recordedTimestamp(t, 0), 0);
                Check.due("recordedTimestamp", x.recordedTimestamp(t, 7), 5);
                Check.due("recordedTimestamp of an aborted one", x.recordedTimestamp(aborted, 7), 5);
                if (round == 1) {
                    x.commit(t);
                }
                x.advance(11);
            }
            Check.due("state", x.state(t), CommitWaitStore.COMMITTED);
        });
        s.says("`key`: 0 to 7", x -> {
            x.begin(0);
            Check.range("recordedTimestamp", 0, 7, Check.INDEX, n -> x.recordedTimestamp(0, n));
        });
        s.says("Returns the timestamp of the recorded version; NONE if the transaction has not read the key.", x -> {
            int t = Check.writer(x, 0, 3, 1);
            x.read(t, 3);
            x.read(t, 4);
            x.begin(0);
            for (int key = 0; key < 8; key++) {
                Check.due("recordedTimestamp, key " + key, x.recordedTimestamp(t, key), key == 4 ? 0 : NONE);
                Check.due("recordedTimestamp of another one", x.recordedTimestamp(t + 1, key), NONE);
            }
        });
        ofTransaction(s, "recordedTimestamp", NO_TRANSACTION_OR_KEY, (x, t) -> x.recordedTimestamp(t, 7));
        s.says("or no such key", x -> {
            x.begin(0);
            Check.index("recordedTimestamp(0, 8)", () -> x.recordedTimestamp(0, 8));
            Check.index("recordedTimestamp(0, -1)", () -> x.recordedTimestamp(0, -1));
            Check.index("recordedTimestamp(1, 8)", () -> x.recordedTimestamp(1, 8));
        });
    }

    private static void ifCommitted(Sentences s) {
        s.at("Promise 32");
        s.says("Tells what a commit request would return now.", x -> {
            int t = x.begin(0);
            String before = Check.everything(x);
            Check.due("ifCommitted", x.ifCommitted(t), 5);
            Check.due("the store after ifCommitted", Check.everything(x), before);
            x.advance(1);
            Check.due("ifCommitted a tick later", x.ifCommitted(t), 7);
            x.write(t, 0, 1);
            x.synchronize(0, -500);
            Check.due("ifCommitted, the least", x.ifCommitted(t), 1);
        });
        s.says("Returns what commit() would return;", x -> {
            int reader = Check.reader(x, 1, 0);
            int blind = Check.writer(x, 1, 0, 2);
            x.commit(Check.writer(x, 0, 0, 1));
            Check.due("ifCommitted, a lock", x.ifCommitted(reader), CommitWaitStore.LOCKED);
            Check.due("commit", x.commit(reader), CommitWaitStore.LOCKED);
            x.advance(12);
            Check.due("ifCommitted, a conflict", x.ifCommitted(reader), CommitWaitStore.CONFLICT);
            Check.due("state", x.state(reader), CommitWaitStore.OPEN);
            Check.due("commit", x.commit(reader), CommitWaitStore.CONFLICT);
            Check.due("ifCommitted, an acceptance", x.ifCommitted(blind), 18);
            Check.due("commit", x.commit(blind), 18);
        });
        s.says("NONE if the transaction is not open.", x -> {
            x.begin(0);
            Check.due("ifCommitted of an open one", x.ifCommitted(0), 5);
            x.commit(0);
            Check.due("ifCommitted of a waiting one", x.ifCommitted(0), NONE);
            x.advance(12);
            Check.due("ifCommitted of a committed one", x.ifCommitted(0), NONE);
            x.abort(x.begin(0));
            Check.due("ifCommitted of an aborted one", x.ifCommitted(1), NONE);
        });
        ofTransaction(s, "ifCommitted", NO_TRANSACTION, (x, t) -> x.ifCommitted(t));
    }

    private static void ticksToCommit(Sentences s) {
        s.at("Promise 33");
        s.says("Tells in how many ticks a waiting transaction becomes committed if only the true time advances.", x -> {
            x.commit(x.begin(0));
            for (int ticks = 12; ticks >= 1; ticks--) {
                Check.due("ticksToCommit", x.ticksToCommit(0), ticks);
                Check.due("state", x.state(0), CommitWaitStore.WAITING);
                x.advance(1);
            }
            Check.due("state", x.state(0), CommitWaitStore.COMMITTED);
        });
        s.says("The limit of the true time is ignored.", x -> {
            CommitWaitStore y = Check.storeAt(1000000);
            y.synchronize(0, 0);
            y.commit(y.begin(0));
            Check.due("ticksToCommit at 1000000", y.ticksToCommit(0), 12);
            y.setUncertainty(0, 0, 0);
            y.synchronize(0, 5);
            Check.due("ticksToCommit, one tick behind the limit", y.ticksToCommit(0), 1);
            CommitWaitStore z = Check.storeAt(999999);
            z.synchronize(0, 0);
            z.commit(z.begin(0));
            Check.due("ticksToCommit at 999999", z.ticksToCommit(0), 12);
        });
        s.says("0 if the transaction is committed; NONE if it is open or aborted,", x -> {
            x.begin(0);
            Check.due("ticksToCommit of an open one", x.ticksToCommit(0), NONE);
            x.commit(0);
            x.advance(12);
            Check.due("ticksToCommit of a committed one", x.ticksToCommit(0), 0);
            x.abort(x.begin(0));
            Check.due("ticksToCommit of an aborted one", x.ticksToCommit(1), NONE);
        });
        ofTransaction(s, "ticksToCommit", NO_TRANSACTION, (x, t) -> x.ticksToCommit(t));
    }

    /** At 99990 the clock is 9999 unsure when the timestamp is taken, and as unsure as told afterwards. */
    private static void waitFrom99990(int base, int due) {
        CommitWaitStore x = new CommitWaitStore();
        x.setUncertainty(0, 0, 100);
        Check.goTo(x, 99990);
        Check.due("commit", x.commit(x.begin(0)), 99990 + 9999);
        x.setUncertainty(0, base, 0);
        Check.due("ticksToCommit, base " + base, x.ticksToCommit(0), due);
    }

    private static void longestWaits(Sentences s) {
        s.says("Returns the number of ticks, 1 to 10000;", x -> {
            x.commit(x.begin(0));
            x.synchronize(0, 500);
            Check.due("ticksToCommit, the least, though the clock is past it", x.ticksToCommit(0), 1);
            x.synchronize(0, 10);
            Check.due("ticksToCommit, after this tick the clock is level", x.ticksToCommit(0), 2);
            x.synchronize(0, 11);
            Check.due("ticksToCommit, after this tick the clock is past it", x.ticksToCommit(0), 1);
            waitFrom99990(0, 10000);
        });
        s.says("or if more than 10000 ticks are needed.", x -> {
            waitFrom99990(0, 10000);
            waitFrom99990(1, NONE);
            waitFrom99990(500, NONE);
        });
        s.says("Returns the number of ticks,", x -> {
            // From here the earliest time is 7 at 9, 8 at 10, and 7 again at 11.
            x.setUncertainty(0, 7, 0);
            x.commit(x.begin(0));
            x.setUncertainty(0, 0, 100);
            x.setDrift(0, -100);
            Check.due("ticksToCommit up to 10", x.ticksToCommit(0), 10);
            x.undo();
            x.setDrift(0, 100);
            // Now it is one less than the tick, but for each tenth tick.
            Check.due("ticksToCommit of a fast clock", x.ticksToCommit(0), 9);
        });
        s.says("Returns the number of ticks,", x -> {
            // The earliest time is 4 at 9, and 6 at 10.
            x.setUncertainty(0, 5, 0);
            x.setDrift(0, 100);
            Check.due("commit", x.commit(x.begin(0)), 5);
            for (int ticks = 10; ticks >= 1; ticks--) {
                Check.due("ticksToCommit", x.ticksToCommit(0), ticks);
                Check.due("advance(1)", x.advance(1), ticks == 1 ? 1 : 0);
            }
        });
    }
}
