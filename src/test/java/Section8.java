/** Section 8: exceptions and constants. */
final class Section8 {
    private Section8() {
    }

    static void test(Sentences s) {
        s.at("Section 8");
        changesNothing(s);
        changesNothingWhenFull(s);
        namedFirst(s);
        constants(s);
    }

    private static void refused(String call, String exception, Check.CallOn onBusyStore) {
        CommitWaitStore x = Check.busyStore();
        x.save(0);
        Check.refused(call, x, exception, onBusyStore);
    }

    private static void changesNothing(Sentences s) {
        s.says("A call that throws an exception changes nothing.", x -> {
            refused("begin(3)", Check.INDEX, y -> y.begin(3));
            refused("read(4, 0)", Check.INDEX, y -> y.read(4, 0));
            refused("read(1, 8)", Check.INDEX, y -> y.read(1, 8));
            refused("read(2, 0)", Check.STATE, y -> y.read(2, 0));
            refused("write(4, 0, 0)", Check.INDEX, y -> y.write(4, 0, 0));
            refused("write(1, 8, 0)", Check.INDEX, y -> y.write(1, 8, 0));
            refused("write(1, 0, 10000)", Check.ARGUMENT, y -> y.write(1, 0, 10000));
            refused("write(3, 0, 0)", Check.STATE, y -> y.write(3, 0, 0));
            refused("commit(4)", Check.INDEX, y -> y.commit(4));
            refused("commit(2)", Check.STATE, y -> y.commit(2));
            refused("abort(4)", Check.INDEX, y -> y.abort(4));
            refused("abort(0)", Check.STATE, y -> y.abort(0));
            refused("advance(1001)", Check.ARGUMENT, y -> y.advance(1001));
            refused("synchronize(3, 0)", Check.INDEX, y -> y.synchronize(3, 0));
            refused("synchronize(0, 501)", Check.ARGUMENT, y -> y.synchronize(0, 501));
            refused("setDrift(3, 0)", Check.INDEX, y -> y.setDrift(3, 0));
            refused("setDrift(0, 101)", Check.ARGUMENT, y -> y.setDrift(0, 101));
            refused("setUncertainty(3, 0, 0)", Check.INDEX, y -> y.setUncertainty(3, 0, 0));
            refused("setUncertainty(0, 501, 0)", Check.ARGUMENT, y -> y.setUncertainty(0, 501, 0));
            refused("setUncertainty(0, 0, 101)", Check.ARGUMENT, y -> y.setUncertainty(0, 0, 101));
        });
        s.says("A call that throws an exception changes nothing.", x -> {
            refused("snapshotRead(8, 30)", Check.INDEX, y -> y.snapshotRead(8, 30));
            refused("snapshotRead(0, -1)", Check.ARGUMENT, y -> y.snapshotRead(0, -1));
            refused("snapshotRead(0, 46)", Check.STATE, y -> y.snapshotRead(0, 46));
            refused("appendText(127)", Check.ARGUMENT, y -> y.appendText(127));
            CommitWaitStore withSemicolon = Check.busyStore();
            withSemicolon.appendText(';');
            Check.refused("runText()", withSemicolon, Check.STATE, y -> y.runText());
            refused("save(2)", Check.INDEX, y -> y.save(2));
            refused("restore(2)", Check.INDEX, y -> y.restore(2));
            refused("restore(1)", Check.STATE, y -> y.restore(1));
            refused("reading(3)", Check.INDEX, y -> y.reading(3));
            refused("nextTimestamp(3)", Check.INDEX, y -> y.nextTimestamp(3));
            refused("ifCommitted(4)", Check.INDEX, y -> y.ifCommitted(4));
            refused("ticksToCommit(4)", Check.INDEX, y -> y.ticksToCommit(4));
            refused("versionTimestamp(0, 2)", Check.INDEX, y -> y.versionTimestamp(0, 2));
            refused("valueAt(0, -1)", Check.ARGUMENT, y -> y.valueAt(0, -1));
            refused("replayedValueAt(0, -1)", Check.ARGUMENT, y -> y.replayedValueAt(0, -1));
            refused("ticksUntilSafe(-1)", Check.ARGUMENT, y -> y.ticksUntilSafe(-1));
            refused("countInState(4)", Check.ARGUMENT, y -> y.countInState(4));
            Check.refused("undo()", new CommitWaitStore(), Check.STATE, y -> y.undo());
        });
    }

    private static void changesNothingWhenFull(Sentences s) {
        s.says("A call that throws an exception changes nothing.", x -> {
            for (int i = 0; i < 40; i++) {
                x.begin(i % 3);
            }
            x.undo();
            x.begin(1);
            Check.illegalState("begin(0), the forty-first", () -> x.begin(0));
            Check.due("transactions()", x.transactions(), 40);
            Check.due("savedStates()", x.savedStates(), 6);
            Check.due("undo()", x.undo(), 5);
            Check.due("transactions() after undo()", x.transactions(), 39);
            CommitWaitStore full = new CommitWaitStore();
            Check.append(full, "c10;".repeat(20));
            Check.refused("appendText to 80 characters", full, Check.STATE, y -> y.appendText(';'));
            CommitWaitStore late = Check.storeAt(999500);
            Check.refused("advance(501) at 999500", late, Check.STATE, y -> y.advance(501));
        });
    }

    private static void namedFirst(Sentences s) {
        s.says("If several exceptions apply to a call, the one that is named first in the throws clause of the method is "
                + "thrown.", x -> {
            for (int i = 0; i < 40; i++) {
                x.begin(0);
            }
            x.abort(1);
            x.commit(2);
            Check.index("begin(3) of the forty-first", () -> x.begin(3));
            Check.index("begin(-1) of the forty-first", () -> x.begin(-1));
            for (int closed = 1; closed <= 2; closed++) {
                int t = closed;
                Check.index("read(" + t + ", 8)", () -> x.read(t, 8));
                Check.index("read(" + t + ", -1)", () -> x.read(t, -1));
                Check.index("write(" + t + ", 8, 0)", () -> x.write(t, 8, 0));
                Check.index("write(" + t + ", -1, 10000)", () -> x.write(t, -1, 10000));
                Check.argument("write(" + t + ", 0, 10000)", () -> x.write(t, 0, 10000));
                Check.argument("write(" + t + ", 0, -1)", () -> x.write(t, 0, -1));
            }
            Check.index("write(40, 0, -1)", () -> x.write(40, 0, -1));
            Check.index("write(-1, 0, 10000)", () -> x.write(-1, 0, 10000));
            Check.index("write(0, 8, -1)", () -> x.write(0, 8, -1));
            Check.index("write(0, -1, 10000)", () -> x.write(0, -1, 10000));
        });
        s.says("the one that is named first in the throws clause", x -> {
            Check.index("synchronize(3, 501)", () -> x.synchronize(3, 501));
            Check.index("synchronize(-1, -501)", () -> x.synchronize(-1, -501));
            Check.index("setDrift(3, 101)", () -> x.setDrift(3, 101));
            Check.index("setDrift(-1, -101)", () -> x.setDrift(-1, -101));
            Check.index("setUncertainty(3, 501, 0)", () -> x.setUncertainty(3, 501, 0));
            Check.index("setUncertainty(-1, 0, -1)", () -> x.setUncertainty(-1, 0, -1));
            Check.index("snapshotRead(8, -1)", () -> x.snapshotRead(8, -1));
            Check.index("snapshotRead(-1, 5), above the safe time", () -> x.snapshotRead(-1, 5));
            Check.index("valueAt(8, -1)", () -> x.valueAt(8, -1));
            Check.index("valueAt(-1, -1)", () -> x.valueAt(-1, -1));
            Check.index("replayedValueAt(8, -1)", () -> x.replayedValueAt(8, -1));
            Check.index("replayedValueAt(-1, -1)", () -> x.replayedValueAt(-1, -1));
            Check.index("restore(2), nothing is saved", () -> x.restore(2));
            Check.append(x, "c10;".repeat(20));
            Check.argument("appendText(127) to 80 characters", () -> x.appendText(127));
            Check.argument("appendText(31) to 80 characters", () -> x.appendText(31));
            CommitWaitStore late = Check.storeAt(1000000);
            Check.argument("advance(1001) at 1000000", () -> late.advance(1001));
            Check.argument("advance(greatest number) at 1000000", () -> late.advance(Check.MOST));
            Check.illegalState("advance(1000) at 1000000", () -> late.advance(1000));
        });
    }

    private static void constants(Sentences s) {
        s.says("The constants: `NONE = -1`: The result of several methods if there is nothing to return.", x -> {
            Check.due("NONE", CommitWaitStore.NONE, -1);
            x.begin(0);
            Check.due("timestamp", x.timestamp(0), -1);
            Check.due("requestTime", x.requestTime(0), -1);
            Check.due("commitTime", x.commitTime(0), -1);
            Check.due("bufferedValue", x.bufferedValue(0, 0), -1);
            Check.due("recordedTimestamp", x.recordedTimestamp(0, 0), -1);
            Check.due("ticksToCommit", x.ticksToCommit(0), -1);
            Check.due("waitingWriter", x.waitingWriter(0), -1);
            Check.due("ticksUntilSafe", x.ticksUntilSafe(Check.MOST), -1);
            x.abort(0);
            Check.due("ifCommitted", x.ifCommitted(0), -1);
            Check.append(x, "b0");
            Check.due("errorPosition()", x.errorPosition(), -1);
        });
        s.says("`CONFLICT = -2`: The result of a commit request that ends in a conflict.", x -> {
            Check.due("CONFLICT", CommitWaitStore.CONFLICT, -2);
            int t = Check.reader(x, 1, 0);
            x.commit(Check.writer(x, 0, 0, 1));
            x.advance(12);
            Check.due("commit", x.commit(t), -2);
        });
        s.says("`LOCKED = -3`: The result of a commit request that is refused because of a lock.", x -> {
            Check.due("LOCKED", CommitWaitStore.LOCKED, -3);
            int t = Check.reader(x, 1, 0);
            x.commit(Check.writer(x, 0, 0, 1));
            Check.due("commit", x.commit(t), -3);
        });
        s.says("`OPEN = 0, WAITING = 1, COMMITTED = 2, ABORTED = 3`: The states of a transaction, as state() returns "
                + "them.", x -> {
            Check.due("OPEN", CommitWaitStore.OPEN, 0);
            Check.due("WAITING", CommitWaitStore.WAITING, 1);
            Check.due("COMMITTED", CommitWaitStore.COMMITTED, 2);
            Check.due("ABORTED", CommitWaitStore.ABORTED, 3);
            Check.due("state of an open one", x.state(x.begin(0)), 0);
            x.commit(0);
            Check.due("state of a waiting one", x.state(0), 1);
            x.advance(12);
            Check.due("state of a committed one", x.state(0), 2);
            x.abort(x.begin(0));
            Check.due("state of an aborted one", x.state(1), 3);
        });
        s.says("Ahead of the calls `trueTime`, `reading`, `earliest`, `latest`, `isSound`, `nextTimestamp` the interface "
                + "says: ---- queries about time and clocks; queries change nothing.", x -> {
            CommitWaitStore y = Check.busyStore();
            String before = Check.everything(y);
            for (int key = 0; key < 8; key++) {
                y.versionTimestamp(key, 0);
                y.replayedValueAt(key, Check.MOST);
            }
            for (int number = 0; number < 4; number++) {
                y.countInState(number);
                y.ticksUntilSafe(number * 5000);
            }
            Check.due("the store after queries", Check.everything(y), before);
        });
    }
}
